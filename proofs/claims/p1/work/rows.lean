section
-- ===== PART A: goes FIRST, ahead of the names: the tables' words, and 'selects' of the private methods out of them =====
/-- a private method of a class that the tables say can be made, by its rows of tables_1 -/
def lw_okq (q : MethodName × Nat) : Prop := (q.1.cls ≠ "java/lang/invoke/MethodHandle" ∧ q.1.cls ≠ "java/lang/invoke/VarHandle") ∧ Cond.instantiable q.1.cls q.2 ∈ tables_1 ∧ Cond.privateMethod q.1 ∈ tables_1 ∧ Cond.instanceMethod q.1 ∈ tables_1
theorem lw_p0 : lw_okq (⟨"FlushProofs$Nodes", "put", "(IIII)I"⟩, 9) := ⟨⟨by decide +kernel, by decide +kernel⟩, List.mem_of_getElem? (i := 36) (by decide +kernel), List.mem_of_getElem? (i := 96) (by decide +kernel), List.mem_of_getElem? (i := 97) (by decide +kernel)⟩
theorem lw_p1 : lw_okq (⟨"FlushProofs", "requireRoomForElement", "()V"⟩, 3) := ⟨⟨by decide +kernel, by decide +kernel⟩, List.mem_of_getElem? (i := 22) (by decide +kernel), List.mem_of_getElem? (i := 345) (by decide +kernel), List.mem_of_getElem? (i := 346) (by decide +kernel)⟩
theorem lw_p2 : lw_okq (⟨"java/lang/Throwable", "fillInStackTrace", "(I)Ljava/lang/Throwable;"⟩, 6) := ⟨⟨by decide +kernel, by decide +kernel⟩, List.mem_of_getElem? (i := 388) (by decide +kernel), List.mem_of_getElem? (i := 386) (by decide +kernel), List.mem_of_getElem? (i := 387) (by decide +kernel)⟩
theorem lw_p3 : lw_okq (⟨"FlushProofs", "requireNode", "(I)V"⟩, 3) := ⟨⟨by decide +kernel, by decide +kernel⟩, List.mem_of_getElem? (i := 22) (by decide +kernel), List.mem_of_getElem? (i := 442) (by decide +kernel), List.mem_of_getElem? (i := 443) (by decide +kernel)⟩
theorem lw_p4 : lw_okq (⟨"FlushProofs", "requireWord", "(I)V"⟩, 3) := ⟨⟨by decide +kernel, by decide +kernel⟩, List.mem_of_getElem? (i := 22) (by decide +kernel), List.mem_of_getElem? (i := 482) (by decide +kernel), List.mem_of_getElem? (i := 483) (by decide +kernel)⟩
theorem lw_p5 : lw_okq (⟨"FlushProofs", "requireTruth", "(I)V"⟩, 3) := ⟨⟨by decide +kernel, by decide +kernel⟩, List.mem_of_getElem? (i := 22) (by decide +kernel), List.mem_of_getElem? (i := 520) (by decide +kernel), List.mem_of_getElem? (i := 521) (by decide +kernel)⟩
theorem lw_p6 : lw_okq (⟨"FlushProofs", "requireSameSort", "(II)V"⟩, 3) := ⟨⟨by decide +kernel, by decide +kernel⟩, List.mem_of_getElem? (i := 22) (by decide +kernel), List.mem_of_getElem? (i := 548) (by decide +kernel), List.mem_of_getElem? (i := 549) (by decide +kernel)⟩
theorem lw_p7 : lw_okq (⟨"FlushProofs", "requireElement", "(I)V"⟩, 3) := ⟨⟨by decide +kernel, by decide +kernel⟩, List.mem_of_getElem? (i := 22) (by decide +kernel), List.mem_of_getElem? (i := 564) (by decide +kernel), List.mem_of_getElem? (i := 565) (by decide +kernel)⟩
theorem lw_p8 : lw_okq (⟨"FlushProofs", "requireNoFetch", "(I)V"⟩, 3) := ⟨⟨by decide +kernel, by decide +kernel⟩, List.mem_of_getElem? (i := 22) (by decide +kernel), List.mem_of_getElem? (i := 580) (by decide +kernel), List.mem_of_getElem? (i := 581) (by decide +kernel)⟩
theorem lw_p9 : lw_okq (⟨"FlushProofs", "makeRoom", "(I)V"⟩, 3) := ⟨⟨by decide +kernel, by decide +kernel⟩, List.mem_of_getElem? (i := 22) (by decide +kernel), List.mem_of_getElem? (i := 626) (by decide +kernel), List.mem_of_getElem? (i := 627) (by decide +kernel)⟩
theorem lw_p10 : lw_okq (⟨"FlushProofs$Prover", "begin", "(LFlushProofs$Core;)V"⟩, 7) := ⟨⟨by decide +kernel, by decide +kernel⟩, List.mem_of_getElem? (i := 185) (by decide +kernel), List.mem_of_getElem? (i := 644) (by decide +kernel), List.mem_of_getElem? (i := 645) (by decide +kernel)⟩
theorem lw_p11 : lw_okq (⟨"FlushProofs$Prover", "putIn", "(LFlushProofs$Core;[II)V"⟩, 7) := ⟨⟨by decide +kernel, by decide +kernel⟩, List.mem_of_getElem? (i := 185) (by decide +kernel), List.mem_of_getElem? (i := 655) (by decide +kernel), List.mem_of_getElem? (i := 656) (by decide +kernel)⟩
theorem lw_p12 : lw_okq (⟨"FlushProofs$Prover", "step", "(LFlushProofs$Core;[II)V"⟩, 7) := ⟨⟨by decide +kernel, by decide +kernel⟩, List.mem_of_getElem? (i := 185) (by decide +kernel), List.mem_of_getElem? (i := 675) (by decide +kernel), List.mem_of_getElem? (i := 676) (by decide +kernel)⟩
theorem lw_p13 : lw_okq (⟨"FlushProofs$Prover", "takeImages", "(LFlushProofs$Core;[I[I)V"⟩, 7) := ⟨⟨by decide +kernel, by decide +kernel⟩, List.mem_of_getElem? (i := 185) (by decide +kernel), List.mem_of_getElem? (i := 679) (by decide +kernel), List.mem_of_getElem? (i := 680) (by decide +kernel)⟩
theorem lw_p14 : lw_okq (⟨"FlushProofs$Prover", "plainStep", "(LFlushProofs$Core;[I)V"⟩, 7) := ⟨⟨by decide +kernel, by decide +kernel⟩, List.mem_of_getElem? (i := 185) (by decide +kernel), List.mem_of_getElem? (i := 683) (by decide +kernel), List.mem_of_getElem? (i := 684) (by decide +kernel)⟩
theorem lw_p15 : lw_okq (⟨"FlushProofs$Prover", "markInvariants", "()V"⟩, 7) := ⟨⟨by decide +kernel, by decide +kernel⟩, List.mem_of_getElem? (i := 185) (by decide +kernel), List.mem_of_getElem? (i := 687) (by decide +kernel), List.mem_of_getElem? (i := 688) (by decide +kernel)⟩
def lw_privs_1 : List (MethodName × Nat) := [(⟨"FlushProofs$Nodes", "put", "(IIII)I"⟩, 9), (⟨"FlushProofs", "requireRoomForElement", "()V"⟩, 3), (⟨"java/lang/Throwable", "fillInStackTrace", "(I)Ljava/lang/Throwable;"⟩, 6), (⟨"FlushProofs", "requireNode", "(I)V"⟩, 3), (⟨"FlushProofs", "requireWord", "(I)V"⟩, 3), (⟨"FlushProofs", "requireTruth", "(I)V"⟩, 3), (⟨"FlushProofs", "requireSameSort", "(II)V"⟩, 3), (⟨"FlushProofs", "requireElement", "(I)V"⟩, 3), (⟨"FlushProofs", "requireNoFetch", "(I)V"⟩, 3), (⟨"FlushProofs", "makeRoom", "(I)V"⟩, 3), (⟨"FlushProofs$Prover", "begin", "(LFlushProofs$Core;)V"⟩, 7), (⟨"FlushProofs$Prover", "putIn", "(LFlushProofs$Core;[II)V"⟩, 7), (⟨"FlushProofs$Prover", "step", "(LFlushProofs$Core;[II)V"⟩, 7), (⟨"FlushProofs$Prover", "takeImages", "(LFlushProofs$Core;[I[I)V"⟩, 7), (⟨"FlushProofs$Prover", "plainStep", "(LFlushProofs$Core;[I)V"⟩, 7), (⟨"FlushProofs$Prover", "markInvariants", "()V"⟩, 7)]
theorem lw_r1 : ∀ q ∈ lw_privs_1, lw_okq q := List.forall_mem_cons.mpr ⟨lw_p0, List.forall_mem_cons.mpr ⟨lw_p1, List.forall_mem_cons.mpr ⟨lw_p2, List.forall_mem_cons.mpr ⟨lw_p3, List.forall_mem_cons.mpr ⟨lw_p4, List.forall_mem_cons.mpr ⟨lw_p5, List.forall_mem_cons.mpr ⟨lw_p6, List.forall_mem_cons.mpr ⟨lw_p7, List.forall_mem_cons.mpr ⟨lw_p8, List.forall_mem_cons.mpr ⟨lw_p9, List.forall_mem_cons.mpr ⟨lw_p10, List.forall_mem_cons.mpr ⟨lw_p11, List.forall_mem_cons.mpr ⟨lw_p12, List.forall_mem_cons.mpr ⟨lw_p13, List.forall_mem_cons.mpr ⟨lw_p14, List.forall_mem_cons.mpr ⟨lw_p15, fun _ h => absurd h List.not_mem_nil⟩⟩⟩⟩⟩⟩⟩⟩⟩⟩⟩⟩⟩⟩⟩⟩
theorem lw_p16 : lw_okq (⟨"FlushProofs$Prover", "countDeep", "(LFlushProofs$Outcome;)V"⟩, 7) := ⟨⟨by decide +kernel, by decide +kernel⟩, List.mem_of_getElem? (i := 185) (by decide +kernel), List.mem_of_getElem? (i := 695) (by decide +kernel), List.mem_of_getElem? (i := 696) (by decide +kernel)⟩
theorem lw_p17 : lw_okq (⟨"FlushProofs$Prover", "markNeeded", "()V"⟩, 7) := ⟨⟨by decide +kernel, by decide +kernel⟩, List.mem_of_getElem? (i := 185) (by decide +kernel), List.mem_of_getElem? (i := 720) (by decide +kernel), List.mem_of_getElem? (i := 721) (by decide +kernel)⟩
theorem lw_p18 : lw_okq (⟨"FlushProofs$Search", "collect", "([Z)V"⟩, 15) := ⟨⟨by decide +kernel, by decide +kernel⟩, List.mem_of_getElem? (i := 224) (by decide +kernel), List.mem_of_getElem? (i := 728) (by decide +kernel), List.mem_of_getElem? (i := 729) (by decide +kernel)⟩
theorem lw_p19 : lw_okq (⟨"FlushProofs$Search", "collectNode", "(II)V"⟩, 15) := ⟨⟨by decide +kernel, by decide +kernel⟩, List.mem_of_getElem? (i := 224) (by decide +kernel), List.mem_of_getElem? (i := 732) (by decide +kernel), List.mem_of_getElem? (i := 733) (by decide +kernel)⟩
theorem lw_p20 : lw_okq (⟨"FlushProofs$Search", "addTruth", "(I)V"⟩, 15) := ⟨⟨by decide +kernel, by decide +kernel⟩, List.mem_of_getElem? (i := 224) (by decide +kernel), List.mem_of_getElem? (i := 736) (by decide +kernel), List.mem_of_getElem? (i := 737) (by decide +kernel)⟩
theorem lw_p21 : lw_okq (⟨"FlushProofs$Search", "addWord", "(I)V"⟩, 15) := ⟨⟨by decide +kernel, by decide +kernel⟩, List.mem_of_getElem? (i := 224) (by decide +kernel), List.mem_of_getElem? (i := 740) (by decide +kernel), List.mem_of_getElem? (i := 741) (by decide +kernel)⟩
theorem lw_p22 : lw_okq (⟨"FlushProofs$Search", "setLevels", "([Z)V"⟩, 15) := ⟨⟨by decide +kernel, by decide +kernel⟩, List.mem_of_getElem? (i := 224) (by decide +kernel), List.mem_of_getElem? (i := 744) (by decide +kernel), List.mem_of_getElem? (i := 745) (by decide +kernel)⟩
theorem lw_p23 : lw_okq (⟨"FlushProofs$Search", "levelOfParts", "(I)I"⟩, 15) := ⟨⟨by decide +kernel, by decide +kernel⟩, List.mem_of_getElem? (i := 224) (by decide +kernel), List.mem_of_getElem? (i := 748) (by decide +kernel), List.mem_of_getElem? (i := 749) (by decide +kernel)⟩
theorem lw_p24 : lw_okq (⟨"FlushProofs$Search", "levelOf", "(I)I"⟩, 15) := ⟨⟨by decide +kernel, by decide +kernel⟩, List.mem_of_getElem? (i := 224) (by decide +kernel), List.mem_of_getElem? (i := 752) (by decide +kernel), List.mem_of_getElem? (i := 753) (by decide +kernel)⟩
theorem lw_p25 : lw_okq (⟨"FlushProofs$Search", "arrange", "([Z)V"⟩, 15) := ⟨⟨by decide +kernel, by decide +kernel⟩, List.mem_of_getElem? (i := 224) (by decide +kernel), List.mem_of_getElem? (i := 757) (by decide +kernel), List.mem_of_getElem? (i := 758) (by decide +kernel)⟩
theorem lw_p26 : lw_okq (⟨"FlushProofs$Search", "setTruths", "()V"⟩, 15) := ⟨⟨by decide +kernel, by decide +kernel⟩, List.mem_of_getElem? (i := 224) (by decide +kernel), List.mem_of_getElem? (i := 762) (by decide +kernel), List.mem_of_getElem? (i := 763) (by decide +kernel)⟩
theorem lw_p27 : lw_okq (⟨"FlushProofs$Search", "reckonLevel", "(I)V"⟩, 15) := ⟨⟨by decide +kernel, by decide +kernel⟩, List.mem_of_getElem? (i := 224) (by decide +kernel), List.mem_of_getElem? (i := 773) (by decide +kernel), List.mem_of_getElem? (i := 774) (by decide +kernel)⟩
theorem lw_p28 : lw_okq (⟨"FlushProofs$Planes", "choose", "(IJII)V"⟩, 4) := ⟨⟨by decide +kernel, by decide +kernel⟩, List.mem_of_getElem? (i := 230) (by decide +kernel), List.mem_of_getElem? (i := 786) (by decide +kernel), List.mem_of_getElem? (i := 787) (by decide +kernel)⟩
theorem lw_p29 : lw_okq (⟨"FlushProofs$Search", "withInvariants", "(IJ)J"⟩, 15) := ⟨⟨by decide +kernel, by decide +kernel⟩, List.mem_of_getElem? (i := 224) (by decide +kernel), List.mem_of_getElem? (i := 793) (by decide +kernel), List.mem_of_getElem? (i := 794) (by decide +kernel)⟩
theorem lw_p30 : lw_okq (⟨"FlushProofs$Search", "giveNumbers", "(IIJ)V"⟩, 15) := ⟨⟨by decide +kernel, by decide +kernel⟩, List.mem_of_getElem? (i := 224) (by decide +kernel), List.mem_of_getElem? (i := 801) (by decide +kernel), List.mem_of_getElem? (i := 802) (by decide +kernel)⟩
theorem lw_p31 : lw_okq (⟨"FlushProofs$Search", "look", "(J)V"⟩, 15) := ⟨⟨by decide +kernel, by decide +kernel⟩, List.mem_of_getElem? (i := 224) (by decide +kernel), List.mem_of_getElem? (i := 805) (by decide +kernel), List.mem_of_getElem? (i := 806) (by decide +kernel)⟩
def lw_privs_2 : List (MethodName × Nat) := [(⟨"FlushProofs$Prover", "countDeep", "(LFlushProofs$Outcome;)V"⟩, 7), (⟨"FlushProofs$Prover", "markNeeded", "()V"⟩, 7), (⟨"FlushProofs$Search", "collect", "([Z)V"⟩, 15), (⟨"FlushProofs$Search", "collectNode", "(II)V"⟩, 15), (⟨"FlushProofs$Search", "addTruth", "(I)V"⟩, 15), (⟨"FlushProofs$Search", "addWord", "(I)V"⟩, 15), (⟨"FlushProofs$Search", "setLevels", "([Z)V"⟩, 15), (⟨"FlushProofs$Search", "levelOfParts", "(I)I"⟩, 15), (⟨"FlushProofs$Search", "levelOf", "(I)I"⟩, 15), (⟨"FlushProofs$Search", "arrange", "([Z)V"⟩, 15), (⟨"FlushProofs$Search", "setTruths", "()V"⟩, 15), (⟨"FlushProofs$Search", "reckonLevel", "(I)V"⟩, 15), (⟨"FlushProofs$Planes", "choose", "(IJII)V"⟩, 4), (⟨"FlushProofs$Search", "withInvariants", "(IJ)J"⟩, 15), (⟨"FlushProofs$Search", "giveNumbers", "(IIJ)V"⟩, 15), (⟨"FlushProofs$Search", "look", "(J)V"⟩, 15)]
theorem lw_r2 : ∀ q ∈ lw_privs_2, lw_okq q := List.forall_mem_cons.mpr ⟨lw_p16, List.forall_mem_cons.mpr ⟨lw_p17, List.forall_mem_cons.mpr ⟨lw_p18, List.forall_mem_cons.mpr ⟨lw_p19, List.forall_mem_cons.mpr ⟨lw_p20, List.forall_mem_cons.mpr ⟨lw_p21, List.forall_mem_cons.mpr ⟨lw_p22, List.forall_mem_cons.mpr ⟨lw_p23, List.forall_mem_cons.mpr ⟨lw_p24, List.forall_mem_cons.mpr ⟨lw_p25, List.forall_mem_cons.mpr ⟨lw_p26, List.forall_mem_cons.mpr ⟨lw_p27, List.forall_mem_cons.mpr ⟨lw_p28, List.forall_mem_cons.mpr ⟨lw_p29, List.forall_mem_cons.mpr ⟨lw_p30, List.forall_mem_cons.mpr ⟨lw_p31, fun _ h => absurd h List.not_mem_nil⟩⟩⟩⟩⟩⟩⟩⟩⟩⟩⟩⟩⟩⟩⟩⟩
theorem lw_p32 : lw_okq (⟨"FlushProofs$Search", "lowestClaim", "(I)I"⟩, 15) := ⟨⟨by decide +kernel, by decide +kernel⟩, List.mem_of_getElem? (i := 224) (by decide +kernel), List.mem_of_getElem? (i := 815) (by decide +kernel), List.mem_of_getElem? (i := 816) (by decide +kernel)⟩
theorem lw_p33 : lw_okq (⟨"FlushProofs$Search", "statesOfUse", "(I)J"⟩, 15) := ⟨⟨by decide +kernel, by decide +kernel⟩, List.mem_of_getElem? (i := 224) (by decide +kernel), List.mem_of_getElem? (i := 822) (by decide +kernel), List.mem_of_getElem? (i := 823) (by decide +kernel)⟩
theorem lw_p34 : lw_okq (⟨"FlushProofs$Search", "withFunctions", "(IIJ)J"⟩, 15) := ⟨⟨by decide +kernel, by decide +kernel⟩, List.mem_of_getElem? (i := 224) (by decide +kernel), List.mem_of_getElem? (i := 826) (by decide +kernel), List.mem_of_getElem? (i := 827) (by decide +kernel)⟩
theorem lw_p35 : lw_okq (⟨"FlushProofs$Search", "sameArguments", "(II)J"⟩, 15) := ⟨⟨by decide +kernel, by decide +kernel⟩, List.mem_of_getElem? (i := 224) (by decide +kernel), List.mem_of_getElem? (i := 830) (by decide +kernel), List.mem_of_getElem? (i := 831) (by decide +kernel)⟩
theorem lw_p36 : lw_okq (⟨"FlushProofs", "requireFailure", "()V"⟩, 3) := ⟨⟨by decide +kernel, by decide +kernel⟩, List.mem_of_getElem? (i := 22) (by decide +kernel), List.mem_of_getElem? (i := 863) (by decide +kernel), List.mem_of_getElem? (i := 864) (by decide +kernel)⟩
theorem lw_p37 : lw_okq (⟨"FlushProofsModel", "begin", "()V"⟩, 36) := ⟨⟨by decide +kernel, by decide +kernel⟩, List.mem_of_getElem? (i := 884) (by decide +kernel), List.mem_of_getElem? (i := 890) (by decide +kernel), List.mem_of_getElem? (i := 891) (by decide +kernel)⟩
theorem lw_p38 : lw_okq (⟨"FlushProofsModel", "link", "(I)V"⟩, 36) := ⟨⟨by decide +kernel, by decide +kernel⟩, List.mem_of_getElem? (i := 884) (by decide +kernel), List.mem_of_getElem? (i := 894) (by decide +kernel), List.mem_of_getElem? (i := 895) (by decide +kernel)⟩
theorem lw_p39 : lw_okq (⟨"FlushProofsModel", "addElement", "(I)I"⟩, 36) := ⟨⟨by decide +kernel, by decide +kernel⟩, List.mem_of_getElem? (i := 884) (by decide +kernel), List.mem_of_getElem? (i := 1019) (by decide +kernel), List.mem_of_getElem? (i := 1020) (by decide +kernel)⟩
theorem lw_p40 : lw_okq (⟨"FlushProofsModel", "fail", "(I)I"⟩, 36) := ⟨⟨by decide +kernel, by decide +kernel⟩, List.mem_of_getElem? (i := 884) (by decide +kernel), List.mem_of_getElem? (i := 1023) (by decide +kernel), List.mem_of_getElem? (i := 1024) (by decide +kernel)⟩
theorem lw_p41 : lw_okq (⟨"FlushProofsModel", "add", "(IIII)I"⟩, 36) := ⟨⟨by decide +kernel, by decide +kernel⟩, List.mem_of_getElem? (i := 884) (by decide +kernel), List.mem_of_getElem? (i := 1027) (by decide +kernel), List.mem_of_getElem? (i := 1028) (by decide +kernel)⟩
theorem lw_p42 : lw_okq (⟨"FlushProofsModel", "isNode", "(I)Z"⟩, 36) := ⟨⟨by decide +kernel, by decide +kernel⟩, List.mem_of_getElem? (i := 884) (by decide +kernel), List.mem_of_getElem? (i := 1039) (by decide +kernel), List.mem_of_getElem? (i := 1040) (by decide +kernel)⟩
theorem lw_p43 : lw_okq (⟨"FlushProofsModel", "isWord", "(I)Z"⟩, 36) := ⟨⟨by decide +kernel, by decide +kernel⟩, List.mem_of_getElem? (i := 884) (by decide +kernel), List.mem_of_getElem? (i := 1046) (by decide +kernel), List.mem_of_getElem? (i := 1047) (by decide +kernel)⟩
theorem lw_p44 : lw_okq (⟨"FlushProofsModel", "told", "(IIIII)I"⟩, 36) := ⟨⟨by decide +kernel, by decide +kernel⟩, List.mem_of_getElem? (i := 884) (by decide +kernel), List.mem_of_getElem? (i := 1050) (by decide +kernel), List.mem_of_getElem? (i := 1051) (by decide +kernel)⟩
theorem lw_p45 : lw_okq (⟨"FlushProofsModel", "plainest", "(IIII)I"⟩, 36) := ⟨⟨by decide +kernel, by decide +kernel⟩, List.mem_of_getElem? (i := 884) (by decide +kernel), List.mem_of_getElem? (i := 1054) (by decide +kernel), List.mem_of_getElem? (i := 1055) (by decide +kernel)⟩
theorem lw_p46 : lw_okq (⟨"FlushProofsModel", "find", "(IIII)I"⟩, 36) := ⟨⟨by decide +kernel, by decide +kernel⟩, List.mem_of_getElem? (i := 884) (by decide +kernel), List.mem_of_getElem? (i := 1058) (by decide +kernel), List.mem_of_getElem? (i := 1059) (by decide +kernel)⟩
theorem lw_p47 : lw_okq (⟨"FlushProofsModel", "isElement", "(I)Z"⟩, 36) := ⟨⟨by decide +kernel, by decide +kernel⟩, List.mem_of_getElem? (i := 884) (by decide +kernel), List.mem_of_getElem? (i := 1082) (by decide +kernel), List.mem_of_getElem? (i := 1083) (by decide +kernel)⟩
def lw_privs_3 : List (MethodName × Nat) := [(⟨"FlushProofs$Search", "lowestClaim", "(I)I"⟩, 15), (⟨"FlushProofs$Search", "statesOfUse", "(I)J"⟩, 15), (⟨"FlushProofs$Search", "withFunctions", "(IIJ)J"⟩, 15), (⟨"FlushProofs$Search", "sameArguments", "(II)J"⟩, 15), (⟨"FlushProofs", "requireFailure", "()V"⟩, 3), (⟨"FlushProofsModel", "begin", "()V"⟩, 36), (⟨"FlushProofsModel", "link", "(I)V"⟩, 36), (⟨"FlushProofsModel", "addElement", "(I)I"⟩, 36), (⟨"FlushProofsModel", "fail", "(I)I"⟩, 36), (⟨"FlushProofsModel", "add", "(IIII)I"⟩, 36), (⟨"FlushProofsModel", "isNode", "(I)Z"⟩, 36), (⟨"FlushProofsModel", "isWord", "(I)Z"⟩, 36), (⟨"FlushProofsModel", "told", "(IIIII)I"⟩, 36), (⟨"FlushProofsModel", "plainest", "(IIII)I"⟩, 36), (⟨"FlushProofsModel", "find", "(IIII)I"⟩, 36), (⟨"FlushProofsModel", "isElement", "(I)Z"⟩, 36)]
theorem lw_r3 : ∀ q ∈ lw_privs_3, lw_okq q := List.forall_mem_cons.mpr ⟨lw_p32, List.forall_mem_cons.mpr ⟨lw_p33, List.forall_mem_cons.mpr ⟨lw_p34, List.forall_mem_cons.mpr ⟨lw_p35, List.forall_mem_cons.mpr ⟨lw_p36, List.forall_mem_cons.mpr ⟨lw_p37, List.forall_mem_cons.mpr ⟨lw_p38, List.forall_mem_cons.mpr ⟨lw_p39, List.forall_mem_cons.mpr ⟨lw_p40, List.forall_mem_cons.mpr ⟨lw_p41, List.forall_mem_cons.mpr ⟨lw_p42, List.forall_mem_cons.mpr ⟨lw_p43, List.forall_mem_cons.mpr ⟨lw_p44, List.forall_mem_cons.mpr ⟨lw_p45, List.forall_mem_cons.mpr ⟨lw_p46, List.forall_mem_cons.mpr ⟨lw_p47, fun _ h => absurd h List.not_mem_nil⟩⟩⟩⟩⟩⟩⟩⟩⟩⟩⟩⟩⟩⟩⟩⟩
theorem lw_p48 : lw_okq (⟨"FlushProofsModel", "isOfSort", "(II)Z"⟩, 36) := ⟨⟨by decide +kernel, by decide +kernel⟩, List.mem_of_getElem? (i := 884) (by decide +kernel), List.mem_of_getElem? (i := 1086) (by decide +kernel), List.mem_of_getElem? (i := 1087) (by decide +kernel)⟩
theorem lw_p49 : lw_okq (⟨"FlushProofsModel", "hasFetch", "(I)Z"⟩, 36) := ⟨⟨by decide +kernel, by decide +kernel⟩, List.mem_of_getElem? (i := 884) (by decide +kernel), List.mem_of_getElem? (i := 1094) (by decide +kernel), List.mem_of_getElem? (i := 1095) (by decide +kernel)⟩
theorem lw_p50 : lw_okq (⟨"FlushProofsModel", "unmark", "()V"⟩, 36) := ⟨⟨by decide +kernel, by decide +kernel⟩, List.mem_of_getElem? (i := 884) (by decide +kernel), List.mem_of_getElem? (i := 1098) (by decide +kernel), List.mem_of_getElem? (i := 1099) (by decide +kernel)⟩
theorem lw_p51 : lw_okq (⟨"FlushProofsModel", "mark", "(I)V"⟩, 36) := ⟨⟨by decide +kernel, by decide +kernel⟩, List.mem_of_getElem? (i := 884) (by decide +kernel), List.mem_of_getElem? (i := 1102) (by decide +kernel), List.mem_of_getElem? (i := 1103) (by decide +kernel)⟩
theorem lw_p52 : lw_okq (⟨"FlushProofsModel", "markParts", "()V"⟩, 36) := ⟨⟨by decide +kernel, by decide +kernel⟩, List.mem_of_getElem? (i := 884) (by decide +kernel), List.mem_of_getElem? (i := 1106) (by decide +kernel), List.mem_of_getElem? (i := 1107) (by decide +kernel)⟩
theorem lw_p53 : lw_okq (⟨"FlushProofsModel", "beginState", "()V"⟩, 36) := ⟨⟨by decide +kernel, by decide +kernel⟩, List.mem_of_getElem? (i := 884) (by decide +kernel), List.mem_of_getElem? (i := 1118) (by decide +kernel), List.mem_of_getElem? (i := 1119) (by decide +kernel)⟩
theorem lw_p54 : lw_okq (⟨"FlushProofsModel", "step", "(I)V"⟩, 36) := ⟨⟨by decide +kernel, by decide +kernel⟩, List.mem_of_getElem? (i := 884) (by decide +kernel), List.mem_of_getElem? (i := 1122) (by decide +kernel), List.mem_of_getElem? (i := 1123) (by decide +kernel)⟩
theorem lw_p55 : lw_okq (⟨"FlushProofsModel", "putIn", "(I)V"⟩, 36) := ⟨⟨by decide +kernel, by decide +kernel⟩, List.mem_of_getElem? (i := 884) (by decide +kernel), List.mem_of_getElem? (i := 1126) (by decide +kernel), List.mem_of_getElem? (i := 1127) (by decide +kernel)⟩
theorem lw_p56 : lw_okq (⟨"FlushProofsModel", "make", "(IIII)I"⟩, 36) := ⟨⟨by decide +kernel, by decide +kernel⟩, List.mem_of_getElem? (i := 884) (by decide +kernel), List.mem_of_getElem? (i := 1130) (by decide +kernel), List.mem_of_getElem? (i := 1131) (by decide +kernel)⟩
theorem lw_p57 : lw_okq (⟨"FlushProofsModel", "get", "(IIII)I"⟩, 36) := ⟨⟨by decide +kernel, by decide +kernel⟩, List.mem_of_getElem? (i := 884) (by decide +kernel), List.mem_of_getElem? (i := 1134) (by decide +kernel), List.mem_of_getElem? (i := 1135) (by decide +kernel)⟩
theorem lw_p58 : lw_okq (⟨"FlushProofsModel", "ask", "(I)I"⟩, 36) := ⟨⟨by decide +kernel, by decide +kernel⟩, List.mem_of_getElem? (i := 884) (by decide +kernel), List.mem_of_getElem? (i := 1138) (by decide +kernel), List.mem_of_getElem? (i := 1139) (by decide +kernel)⟩
theorem lw_p59 : lw_okq (⟨"FlushProofsModel", "gather", "()V"⟩, 36) := ⟨⟨by decide +kernel, by decide +kernel⟩, List.mem_of_getElem? (i := 884) (by decide +kernel), List.mem_of_getElem? (i := 1142) (by decide +kernel), List.mem_of_getElem? (i := 1143) (by decide +kernel)⟩
theorem lw_p60 : lw_okq (⟨"FlushProofsModel", "failsWith", "(I)I"⟩, 36) := ⟨⟨by decide +kernel, by decide +kernel⟩, List.mem_of_getElem? (i := 884) (by decide +kernel), List.mem_of_getElem? (i := 1146) (by decide +kernel), List.mem_of_getElem? (i := 1147) (by decide +kernel)⟩
theorem lw_p61 : lw_okq (⟨"FlushProofsModel", "work", "()V"⟩, 36) := ⟨⟨by decide +kernel, by decide +kernel⟩, List.mem_of_getElem? (i := 884) (by decide +kernel), List.mem_of_getElem? (i := 1150) (by decide +kernel), List.mem_of_getElem? (i := 1151) (by decide +kernel)⟩
theorem lw_p62 : lw_okq (⟨"FlushProofsModel", "areFunctions", "()Z"⟩, 36) := ⟨⟨by decide +kernel, by decide +kernel⟩, List.mem_of_getElem? (i := 884) (by decide +kernel), List.mem_of_getElem? (i := 1154) (by decide +kernel), List.mem_of_getElem? (i := 1155) (by decide +kernel)⟩
theorem lw_p63 : lw_okq (⟨"FlushProofsModel", "failing", "(I)I"⟩, 36) := ⟨⟨by decide +kernel, by decide +kernel⟩, List.mem_of_getElem? (i := 884) (by decide +kernel), List.mem_of_getElem? (i := 1158) (by decide +kernel), List.mem_of_getElem? (i := 1159) (by decide +kernel)⟩
def lw_privs_4 : List (MethodName × Nat) := [(⟨"FlushProofsModel", "isOfSort", "(II)Z"⟩, 36), (⟨"FlushProofsModel", "hasFetch", "(I)Z"⟩, 36), (⟨"FlushProofsModel", "unmark", "()V"⟩, 36), (⟨"FlushProofsModel", "mark", "(I)V"⟩, 36), (⟨"FlushProofsModel", "markParts", "()V"⟩, 36), (⟨"FlushProofsModel", "beginState", "()V"⟩, 36), (⟨"FlushProofsModel", "step", "(I)V"⟩, 36), (⟨"FlushProofsModel", "putIn", "(I)V"⟩, 36), (⟨"FlushProofsModel", "make", "(IIII)I"⟩, 36), (⟨"FlushProofsModel", "get", "(IIII)I"⟩, 36), (⟨"FlushProofsModel", "ask", "(I)I"⟩, 36), (⟨"FlushProofsModel", "gather", "()V"⟩, 36), (⟨"FlushProofsModel", "failsWith", "(I)I"⟩, 36), (⟨"FlushProofsModel", "work", "()V"⟩, 36), (⟨"FlushProofsModel", "areFunctions", "()Z"⟩, 36), (⟨"FlushProofsModel", "failing", "(I)I"⟩, 36)]
theorem lw_r4 : ∀ q ∈ lw_privs_4, lw_okq q := List.forall_mem_cons.mpr ⟨lw_p48, List.forall_mem_cons.mpr ⟨lw_p49, List.forall_mem_cons.mpr ⟨lw_p50, List.forall_mem_cons.mpr ⟨lw_p51, List.forall_mem_cons.mpr ⟨lw_p52, List.forall_mem_cons.mpr ⟨lw_p53, List.forall_mem_cons.mpr ⟨lw_p54, List.forall_mem_cons.mpr ⟨lw_p55, List.forall_mem_cons.mpr ⟨lw_p56, List.forall_mem_cons.mpr ⟨lw_p57, List.forall_mem_cons.mpr ⟨lw_p58, List.forall_mem_cons.mpr ⟨lw_p59, List.forall_mem_cons.mpr ⟨lw_p60, List.forall_mem_cons.mpr ⟨lw_p61, List.forall_mem_cons.mpr ⟨lw_p62, List.forall_mem_cons.mpr ⟨lw_p63, fun _ h => absurd h List.not_mem_nil⟩⟩⟩⟩⟩⟩⟩⟩⟩⟩⟩⟩⟩⟩⟩⟩
theorem lw_p64 : lw_okq (⟨"FlushProofsModel", "goesOn", "(II)Z"⟩, 36) := ⟨⟨by decide +kernel, by decide +kernel⟩, List.mem_of_getElem? (i := 884) (by decide +kernel), List.mem_of_getElem? (i := 1162) (by decide +kernel), List.mem_of_getElem? (i := 1163) (by decide +kernel)⟩
theorem lw_p65 : lw_okq (⟨"FlushProofsModel", "keepState", "(I)V"⟩, 36) := ⟨⟨by decide +kernel, by decide +kernel⟩, List.mem_of_getElem? (i := 884) (by decide +kernel), List.mem_of_getElem? (i := 1166) (by decide +kernel), List.mem_of_getElem? (i := 1167) (by decide +kernel)⟩
def lw_privs_5 : List (MethodName × Nat) := [(⟨"FlushProofsModel", "goesOn", "(II)Z"⟩, 36), (⟨"FlushProofsModel", "keepState", "(I)V"⟩, 36)]
theorem lw_r5 : ∀ q ∈ lw_privs_5, lw_okq q := List.forall_mem_cons.mpr ⟨lw_p64, List.forall_mem_cons.mpr ⟨lw_p65, fun _ h => absurd h List.not_mem_nil⟩⟩
def lw_privs : List (MethodName × Nat) := lw_privs_1 ++ (lw_privs_2 ++ (lw_privs_3 ++ (lw_privs_4 ++ (lw_privs_5))))
def lw_tbl : List Cond := k2_sels lw_privs ++ tables_1
theorem lw_privs_ok : ∀ q ∈ lw_privs, lw_okq q := by
  show ∀ q ∈ lw_privs_1 ++ (lw_privs_2 ++ (lw_privs_3 ++ (lw_privs_4 ++ (lw_privs_5)))), lw_okq q
  exact List.forall_mem_append.mpr ⟨lw_r1, List.forall_mem_append.mpr ⟨lw_r2, List.forall_mem_append.mpr ⟨lw_r3, List.forall_mem_append.mpr ⟨lw_r4, lw_r5⟩⟩⟩⟩
end
section
/-! WHAT THE TABLES SAY, as the pure machine needs it (written by program) -/
abbrev qG : Type := Nat × va_G × (ClassId × ClassId × ClassId) × (Nat × Nat × (Nat → Int32)) × Nat
abbrev qT (g : qG) : List (ClassId × FieldType) := [(g.2.2.1.1, .int), (g.2.2.1.2.1, .boolean), (g.2.2.1.2.2, .long)]
abbrev qA (g : qG) : Nat → Prop := fun q => g.1 ≤ q
abbrev qY : Type := MethodName × ByteArray × Nat × Option FieldType
def qU0 : u_T := fun k => match k with
  | 0 => ("FlushProofs", "core", "LFlushProofs$Core;", true)
  | 1 => ("FlushProofs", "outcome", "LFlushProofs$Outcome;", true)
  | _ => ("FlushProofs", "prover", "LFlushProofs$Prover;", false)
def qV0 : Nat → FieldType := fun k => match k with
  | 0 => .object "FlushProofs$Core"
  | 1 => .object "FlushProofs$Outcome"
  | _ => .object "FlushProofs$Prover"
def qU1 : u_T := fun k => match k with
  | 0 => ("FlushProofs$Core", "nodes", "LFlushProofs$Nodes;", true)
  | 1 => ("FlushProofs$Core", "elementNodes", "[I", true)
  | 2 => ("FlushProofs$Core", "nextNodes", "[I", true)
  | 3 => ("FlushProofs$Core", "plainNodes", "[I", true)
  | 4 => ("FlushProofs$Core", "invariants", "[I", true)
  | 5 => ("FlushProofs$Core", "elementCount", "I", false)
  | 6 => ("FlushProofs$Core", "seenCount", "I", false)
  | _ => ("FlushProofs$Core", "invariantCount", "I", false)
def qV1 : Nat → FieldType := fun k => match k with
  | 0 => .object "FlushProofs$Nodes"
  | 1 => .array .int
  | 2 => .array .int
  | 3 => .array .int
  | 4 => .array .int
  | 5 => .int
  | 6 => .int
  | _ => .int
def qU2 : u_T := fun k => match k with
  | 0 => ("FlushProofs$Nodes", "kinds", "[I", true)
  | 1 => ("FlushProofs$Nodes", "firsts", "[I", true)
  | 2 => ("FlushProofs$Nodes", "seconds", "[I", true)
  | 3 => ("FlushProofs$Nodes", "thirds", "[I", true)
  | 4 => ("FlushProofs$Nodes", "words", "[Z", true)
  | 5 => ("FlushProofs$Nodes", "fetches", "[Z", true)
  | 6 => ("FlushProofs$Nodes", "heads", "[I", true)
  | 7 => ("FlushProofs$Nodes", "links", "[I", true)
  | _ => ("FlushProofs$Nodes", "used", "I", false)
def qV2 : Nat → FieldType := fun k => match k with
  | 0 => .array .int
  | 1 => .array .int
  | 2 => .array .int
  | 3 => .array .int
  | 4 => .array .boolean
  | 5 => .array .boolean
  | 6 => .array .int
  | 7 => .array .int
  | _ => .int
def qU3 : u_T := fun k => match k with
  | 0 => ("FlushProofs$Outcome", "values", "[I", true)
  | 1 => ("FlushProofs$Outcome", "answer", "I", false)
  | 2 => ("FlushProofs$Outcome", "elementCount", "I", false)
  | 3 => ("FlushProofs$Outcome", "fetch", "I", false)
  | 4 => ("FlushProofs$Outcome", "differing", "I", false)
  | 5 => ("FlushProofs$Outcome", "deepWords", "I", false)
  | _ => ("FlushProofs$Outcome", "deepTruths", "I", false)
def qV3 : Nat → FieldType := fun k => match k with
  | 0 => .array .int
  | 1 => .int
  | 2 => .int
  | 3 => .int
  | 4 => .int
  | 5 => .int
  | _ => .int
def qU4 : u_T := fun k => match k with
  | 0 => ("FlushProofs$Planes", "work", "LFlushProofs$Nodes;", true)
  | 1 => ("FlushProofs$Planes", "lows", "[J", true)
  | 2 => ("FlushProofs$Planes", "mids", "[J", true)
  | _ => ("FlushProofs$Planes", "highs", "[J", true)
def qV4 : Nat → FieldType := fun k => match k with
  | 0 => .object "FlushProofs$Nodes"
  | 1 => .array .long
  | 2 => .array .long
  | _ => .array .long
def qU5 : u_T := fun k => match k with
  | 0 => ("FlushProofs$Prover", "work", "LFlushProofs$Nodes;", true)
  | 1 => ("FlushProofs$Prover", "question", "LFlushProofs$Question;", true)
  | 2 => ("FlushProofs$Prover", "search", "LFlushProofs$Search;", true)
  | 3 => ("FlushProofs$Prover", "marks", "[Z", true)
  | 4 => ("FlushProofs$Prover", "images", "[I", true)
  | 5 => ("FlushProofs$Prover", "oneWay", "[I", true)
  | _ => ("FlushProofs$Prover", "otherWay", "[I", true)
def qV5 : Nat → FieldType := fun k => match k with
  | 0 => .object "FlushProofs$Nodes"
  | 1 => .object "FlushProofs$Question"
  | 2 => .object "FlushProofs$Search"
  | 3 => .array .boolean
  | 4 => .array .int
  | 5 => .array .int
  | _ => .array .int
def qU6 : u_T := fun k => match k with
  | 0 => ("FlushProofs$Question", "invariants", "[I", true)
  | 1 => ("FlushProofs$Question", "claims", "[I", true)
  | 2 => ("FlushProofs$Question", "claimElements", "[I", true)
  | 3 => ("FlushProofs$Question", "invariantCount", "I", false)
  | _ => ("FlushProofs$Question", "claimCount", "I", false)
def qV6 : Nat → FieldType := fun k => match k with
  | 0 => .array .int
  | 1 => .array .int
  | 2 => .array .int
  | 3 => .int
  | _ => .int
def qU7 : u_T := fun k => match k with
  | 0 => ("FlushProofs$Search", "work", "LFlushProofs$Nodes;", true)
  | 1 => ("FlushProofs$Search", "question", "LFlushProofs$Question;", true)
  | 2 => ("FlushProofs$Search", "planes", "LFlushProofs$Planes;", true)
  | 3 => ("FlushProofs$Search", "truths", "[I", true)
  | 4 => ("FlushProofs$Search", "words", "[I", true)
  | 5 => ("FlushProofs$Search", "values", "[I", true)
  | 6 => ("FlushProofs$Search", "levels", "[I", true)
  | 7 => ("FlushProofs$Search", "order", "[I", true)
  | 8 => ("FlushProofs$Search", "starts", "[I", true)
  | 9 => ("FlushProofs$Search", "leastValues", "[I", true)
  | 10 => ("FlushProofs$Search", "truthCount", "I", false)
  | 11 => ("FlushProofs$Search", "wordCount", "I", false)
  | 12 => ("FlushProofs$Search", "wordElementCount", "I", false)
  | 13 => ("FlushProofs$Search", "leastIndex", "I", false)
  | _ => ("FlushProofs$Search", "leastClaim", "I", false)
def qV7 : Nat → FieldType := fun k => match k with
  | 0 => .object "FlushProofs$Nodes"
  | 1 => .object "FlushProofs$Question"
  | 2 => .object "FlushProofs$Planes"
  | 3 => .array .int
  | 4 => .array .int
  | 5 => .array .int
  | 6 => .array .int
  | 7 => .array .int
  | 8 => .array .int
  | 9 => .array .int
  | 10 => .int
  | 11 => .int
  | 12 => .int
  | 13 => .int
  | _ => .int
def qU8 : u_T := fun k => match k with
  | 0 => ("FlushProofsModel", "thrown", "I", false)
  | 1 => ("FlushProofsModel", "nodes", "I", false)
  | 2 => ("FlushProofsModel", "all", "I", false)
  | 3 => ("FlushProofsModel", "kind", "[I", true)
  | 4 => ("FlushProofsModel", "one", "[I", true)
  | 5 => ("FlushProofsModel", "two", "[I", true)
  | 6 => ("FlushProofsModel", "three", "[I", true)
  | 7 => ("FlushProofsModel", "chain", "[I", true)
  | 8 => ("FlushProofsModel", "behind", "[I", true)
  | 9 => ("FlushProofsModel", "elements", "I", false)
  | 10 => ("FlushProofsModel", "invariants", "I", false)
  | 11 => ("FlushProofsModel", "element", "[I", true)
  | 12 => ("FlushProofsModel", "next", "[I", true)
  | 13 => ("FlushProofsModel", "hasNext", "[Z", true)
  | 14 => ("FlushProofsModel", "plain", "[I", true)
  | 15 => ("FlushProofsModel", "seen", "[Z", true)
  | 16 => ("FlushProofsModel", "invariant", "[I", true)
  | 17 => ("FlushProofsModel", "made", "[I", true)
  | 18 => ("FlushProofsModel", "state", "[I", true)
  | 19 => ("FlushProofsModel", "oneWay", "[I", true)
  | 20 => ("FlushProofsModel", "otherWay", "[I", true)
  | 21 => ("FlushProofsModel", "deep", "[Z", true)
  | 22 => ("FlushProofsModel", "value", "[I", true)
  | 23 => ("FlushProofsModel", "words", "I", false)
  | 24 => ("FlushProofsModel", "applications", "I", false)
  | 25 => ("FlushProofsModel", "truths", "I", false)
  | 26 => ("FlushProofsModel", "wordNode", "[I", true)
  | 27 => ("FlushProofsModel", "fall", "[I", true)
  | 28 => ("FlushProofsModel", "truthNode", "[I", true)
  | 29 => ("FlushProofsModel", "deepWords", "I", false)
  | 30 => ("FlushProofsModel", "deepTruths", "I", false)
  | 31 => ("FlushProofsModel", "isAnswered", "Z", false)
  | 32 => ("FlushProofsModel", "witness", "[I", true)
  | 33 => ("FlushProofsModel", "fetchThere", "I", false)
  | 34 => ("FlushProofsModel", "differs", "I", false)
  | _ => ("FlushProofsModel", "answeredElements", "I", false)
def qV8 : Nat → FieldType := fun k => match k with
  | 0 => .int
  | 1 => .int
  | 2 => .int
  | 3 => .array .int
  | 4 => .array .int
  | 5 => .array .int
  | 6 => .array .int
  | 7 => .array .int
  | 8 => .array .int
  | 9 => .int
  | 10 => .int
  | 11 => .array .int
  | 12 => .array .int
  | 13 => .array .boolean
  | 14 => .array .int
  | 15 => .array .boolean
  | 16 => .array .int
  | 17 => .array .int
  | 18 => .array .int
  | 19 => .array .int
  | 20 => .array .int
  | 21 => .array .boolean
  | 22 => .array .int
  | 23 => .int
  | 24 => .int
  | 25 => .int
  | 26 => .array .int
  | 27 => .array .int
  | 28 => .array .int
  | 29 => .int
  | 30 => .int
  | 31 => .boolean
  | 32 => .array .int
  | 33 => .int
  | 34 => .int
  | _ => .int
def qCl : List vw_C := [("FlushProofs", qU0, 3), ("FlushProofs$Core", qU1, 8), ("FlushProofs$Nodes", qU2, 9), ("FlushProofs$Outcome", qU3, 7), ("FlushProofs$Planes", qU4, 4), ("FlushProofs$Prover", qU5, 7), ("FlushProofs$Question", qU6, 5), ("FlushProofs$Search", qU7, 15), ("FlushProofsModel", qU8, 36)]
def qTy (ci : Nat) : Nat → FieldType := match ci with
  | 0 => qV0
  | 1 => qV1
  | 2 => qV2
  | 3 => qV3
  | 4 => qV4
  | 5 => qV5
  | 6 => qV6
  | 7 => qV7
  | _ => qV8
def qDf (ci j : Nat) : Value := defaultValue (qTy ci j)
abbrev Y_XNodes_init : qY := (⟨"FlushProofs$Nodes", "<init>", "(I)V"⟩, prog_3_method_1_code, 2, none)
abbrev Y_JArrays_fill : qY := (⟨"java/util/Arrays", "fill", "([II)V"⟩, prog_22_method_103_code, 4, none)
abbrev Y_XNodes_isWord : qY := (⟨"FlushProofs$Nodes", "isWord", "(I)Z"⟩, prog_3_method_5_code, 2, (some .boolean))
abbrev Y_XNodes_hasFetch : qY := (⟨"FlushProofs$Nodes", "hasFetch", "(I)Z"⟩, prog_3_method_6_code, 2, (some .boolean))
abbrev Y_XNodes_put : qY := (⟨"FlushProofs$Nodes", "put", "(IIII)I"⟩, prog_3_method_18_code, 9, (some .int))
abbrev Y_XNodes_reset : qY := (⟨"FlushProofs$Nodes", "reset", "()V"⟩, prog_3_method_3_code, 1, none)
abbrev Y_XCore_init : qY := (⟨"FlushProofs$Core", "<init>", "()V"⟩, prog_2_method_1_code, 1, none)
abbrev Y_XNodes_makeElement : qY := (⟨"FlushProofs$Nodes", "makeElement", "(II)I"⟩, prog_3_method_7_code, 3, (some .int))
abbrev Y_XCore_addElement : qY := (⟨"FlushProofs$Core", "addElement", "(I)I"⟩, prog_2_method_2_code, 3, (some .int))
abbrev Y_XCore_tellNext : qY := (⟨"FlushProofs$Core", "tellNext", "(II)Z"⟩, prog_2_method_3_code, 4, (some .boolean))
abbrev Y_XCore_tellPlain : qY := (⟨"FlushProofs$Core", "tellPlain", "(II)Z"⟩, prog_2_method_4_code, 4, (some .boolean))
abbrev Y_XCore_addInvariant : qY := (⟨"FlushProofs$Core", "addInvariant", "(I)I"⟩, prog_2_method_5_code, 2, (some .int))
abbrev Y_XNodes_room : qY := (⟨"FlushProofs$Nodes", "room", "()I"⟩, prog_3_method_2_code, 1, (some .int))
abbrev Y_XNodes_has : qY := (⟨"FlushProofs$Nodes", "has", "(I)Z"⟩, prog_3_method_4_code, 2, (some .boolean))
abbrev Y_XNodes_makeApplication : qY := (⟨"FlushProofs$Nodes", "makeApplication", "(III)I"⟩, prog_3_method_8_code, 4, (some .int))
abbrev Y_XNodes_makeEquality : qY := (⟨"FlushProofs$Nodes", "makeEquality", "(II)I"⟩, prog_3_method_9_code, 3, (some .int))
abbrev Y_XNodes_makeNot : qY := (⟨"FlushProofs$Nodes", "makeNot", "(I)I"⟩, prog_3_method_10_code, 2, (some .int))
abbrev Y_XNodes_makeBoth : qY := (⟨"FlushProofs$Nodes", "makeBoth", "(II)I"⟩, prog_3_method_11_code, 3, (some .int))
abbrev Y_XNodes_makeChoice : qY := (⟨"FlushProofs$Nodes", "makeChoice", "(III)I"⟩, prog_3_method_12_code, 4, (some .int))
abbrev Y_XNodes_makeDifference : qY := (⟨"FlushProofs$Nodes", "makeDifference", "(II)I"⟩, prog_3_method_13_code, 3, (some .int))
abbrev Y_XNodes_imageOf : qY := (⟨"FlushProofs$Nodes", "imageOf", "([II)I"⟩, prog_3_method_17_code, 2, (some .int))
abbrev Y_XNodes_remakeAll : qY := (⟨"FlushProofs$Nodes", "remakeAll", "(LFlushProofs$Nodes;[I)V"⟩, prog_3_method_14_code, 6, none)
abbrev Y_XNodes_mark : qY := (⟨"FlushProofs$Nodes", "mark", "([ZI)V"⟩, prog_3_method_16_code, 3, none)
abbrev Y_XNodes_spread : qY := (⟨"FlushProofs$Nodes", "spread", "([Z)V"⟩, prog_3_method_15_code, 3, none)
abbrev Y_XOutcome_init : qY := (⟨"FlushProofs$Outcome", "<init>", "()V"⟩, prog_4_method_1_code, 1, none)
abbrev Y_XOutcome_begin : qY := (⟨"FlushProofs$Outcome", "begin", "(II)V"⟩, prog_4_method_2_code, 3, none)
abbrev Y_XOutcome_isTooLarge : qY := (⟨"FlushProofs$Outcome", "isTooLarge", "()Z"⟩, prog_4_method_3_code, 1, (some .boolean))
abbrev Y_XPlanes_init : qY := (⟨"FlushProofs$Planes", "<init>", "(LFlushProofs$Nodes;)V"⟩, prog_5_method_1_code, 2, none)
abbrev Y_XPlanes_truthOf : qY := (⟨"FlushProofs$Planes", "truthOf", "(I)J"⟩, prog_5_method_2_code, 2, (some .long))
abbrev Y_XPlanes_setTruth : qY := (⟨"FlushProofs$Planes", "setTruth", "(IJ)V"⟩, prog_5_method_3_code, 4, none)
abbrev Y_XPlanes_setWord : qY := (⟨"FlushProofs$Planes", "setWord", "(II)V"⟩, prog_5_method_4_code, 3, none)
abbrev Y_XPlanes_same : qY := (⟨"FlushProofs$Planes", "same", "(II)J"⟩, prog_5_method_5_code, 3, (some .long))
abbrev Y_XPlanes_choose : qY := (⟨"FlushProofs$Planes", "choose", "(IJII)V"⟩, prog_5_method_7_code, 6, none)
abbrev Y_XPlanes_reckon : qY := (⟨"FlushProofs$Planes", "reckon", "(I)V"⟩, prog_5_method_6_code, 4, none)
abbrev Y_XQuestion_init : qY := (⟨"FlushProofs$Question", "<init>", "()V"⟩, prog_7_method_1_code, 1, none)
abbrev Y_XSearch_init : qY := (⟨"FlushProofs$Search", "<init>", "(LFlushProofs$Nodes;LFlushProofs$Question;)V"⟩, prog_8_method_1_code, 3, none)
abbrev Y_XProver_init : qY := (⟨"FlushProofs$Prover", "<init>", "(I)V"⟩, prog_6_method_1_code, 2, none)
abbrev Y_XProver_room : qY := (⟨"FlushProofs$Prover", "room", "()I"⟩, prog_6_method_2_code, 1, (some .int))
abbrev Y_XQuestion_begin : qY := (⟨"FlushProofs$Question", "begin", "()V"⟩, prog_7_method_2_code, 1, none)
abbrev Y_XProver_putIn : qY := (⟨"FlushProofs$Prover", "putIn", "(LFlushProofs$Core;[II)V"⟩, prog_6_method_8_code, 5, none)
abbrev Y_XQuestion_addInvariant : qY := (⟨"FlushProofs$Question", "addInvariant", "(I)V"⟩, prog_7_method_3_code, 2, none)
abbrev Y_XProver_begin : qY := (⟨"FlushProofs$Prover", "begin", "(LFlushProofs$Core;)V"⟩, prog_6_method_5_code, 4, none)
abbrev Y_XProver_takeImages : qY := (⟨"FlushProofs$Prover", "takeImages", "(LFlushProofs$Core;[I[I)V"⟩, prog_6_method_9_code, 5, none)
abbrev Y_XProver_step : qY := (⟨"FlushProofs$Prover", "step", "(LFlushProofs$Core;[II)V"⟩, prog_6_method_6_code, 4, none)
abbrev Y_XProver_plainStep : qY := (⟨"FlushProofs$Prover", "plainStep", "(LFlushProofs$Core;[I)V"⟩, prog_6_method_7_code, 3, none)
abbrev Y_XProver_markInvariants : qY := (⟨"FlushProofs$Prover", "markInvariants", "()V"⟩, prog_6_method_10_code, 2, none)
abbrev Y_XProver_countDeep : qY := (⟨"FlushProofs$Prover", "countDeep", "(LFlushProofs$Outcome;)V"⟩, prog_6_method_11_code, 4, none)
abbrev Y_XQuestion_addClaim : qY := (⟨"FlushProofs$Question", "addClaim", "(II)V"⟩, prog_7_method_4_code, 3, none)
abbrev Y_XProver_askEquation : qY := (⟨"FlushProofs$Prover", "askEquation", "(LFlushProofs$Core;ILFlushProofs$Outcome;)V"⟩, prog_6_method_3_code, 5, none)
abbrev Y_XProver_askKept : qY := (⟨"FlushProofs$Prover", "askKept", "(LFlushProofs$Core;ILFlushProofs$Outcome;)V"⟩, prog_6_method_4_code, 5, none)
abbrev Y_XProver_markNeeded : qY := (⟨"FlushProofs$Prover", "markNeeded", "()V"⟩, prog_6_method_13_code, 2, none)
abbrev Y_XSearch_addTruth : qY := (⟨"FlushProofs$Search", "addTruth", "(I)V"⟩, prog_8_method_6_code, 2, none)
abbrev Y_XSearch_addWord : qY := (⟨"FlushProofs$Search", "addWord", "(I)V"⟩, prog_8_method_7_code, 2, none)
abbrev Y_XSearch_collectNode : qY := (⟨"FlushProofs$Search", "collectNode", "(II)V"⟩, prog_8_method_5_code, 3, none)
abbrev Y_XSearch_collect : qY := (⟨"FlushProofs$Search", "collect", "([Z)V"⟩, prog_8_method_4_code, 3, none)
abbrev Y_XSearch_levelOf : qY := (⟨"FlushProofs$Search", "levelOf", "(I)I"⟩, prog_8_method_10_code, 2, (some .int))
abbrev Y_XSearch_levelOfParts : qY := (⟨"FlushProofs$Search", "levelOfParts", "(I)I"⟩, prog_8_method_9_code, 3, (some .int))
abbrev Y_XSearch_setLevels : qY := (⟨"FlushProofs$Search", "setLevels", "([Z)V"⟩, prog_8_method_8_code, 5, none)
abbrev Y_XSearch_arrange : qY := (⟨"FlushProofs$Search", "arrange", "([Z)V"⟩, prog_8_method_11_code, 3, none)
abbrev Y_XSearch_setTruths : qY := (⟨"FlushProofs$Search", "setTruths", "()V"⟩, prog_8_method_12_code, 2, none)
abbrev Y_XSearch_reckonLevel : qY := (⟨"FlushProofs$Search", "reckonLevel", "(I)V"⟩, prog_8_method_13_code, 3, none)
abbrev Y_XSearch_statesBelow : qY := (⟨"FlushProofs$Search", "statesBelow", "(I)J"⟩, prog_8_method_21_code, 1, (some .long))
abbrev Y_XSearch_withInvariants : qY := (⟨"FlushProofs$Search", "withInvariants", "(IJ)J"⟩, prog_8_method_14_code, 7, (some .long))
abbrev Y_JLong_bitCount : qY := (⟨"java/lang/Long", "bitCount", "(J)I"⟩, prog_15_method_50_code, 2, (some .int))
abbrev Y_XSearch_lowestClaim : qY := (⟨"FlushProofs$Search", "lowestClaim", "(I)I"⟩, prog_8_method_20_code, 3, (some .int))
abbrev Y_XSearch_look : qY := (⟨"FlushProofs$Search", "look", "(J)V"⟩, prog_8_method_19_code, 7, none)
abbrev Y_XSearch_statesOfUse : qY := (⟨"FlushProofs$Search", "statesOfUse", "(I)J"⟩, prog_8_method_16_code, 3, (some .long))
abbrev Y_XSearch_sameArguments : qY := (⟨"FlushProofs$Search", "sameArguments", "(II)J"⟩, prog_8_method_18_code, 7, (some .long))
abbrev Y_XSearch_withFunctions : qY := (⟨"FlushProofs$Search", "withFunctions", "(IIJ)J"⟩, prog_8_method_17_code, 10, (some .long))
abbrev Y_XSearch_giveNumbers : qY := (⟨"FlushProofs$Search", "giveNumbers", "(IIJ)V"⟩, prog_8_method_15_code, 8, none)
abbrev Y_XSearch_findLeast : qY := (⟨"FlushProofs$Search", "findLeast", "([Z)Z"⟩, prog_8_method_2_code, 4, (some .boolean))
abbrev Y_XSearch_tell : qY := (⟨"FlushProofs$Search", "tell", "(LFlushProofs$Outcome;)V"⟩, prog_8_method_3_code, 4, none)
abbrev Y_XProver_decide : qY := (⟨"FlushProofs$Prover", "decide", "(LFlushProofs$Outcome;)V"⟩, prog_6_method_12_code, 2, none)
abbrev Y_X_init : qY := (⟨"FlushProofs", "<init>", "()V"⟩, prog_1_method_1_code, 1, none)
abbrev Y_X_requireRoomForElement : qY := (⟨"FlushProofs", "requireRoomForElement", "()V"⟩, prog_1_method_18_code, 1, none)
abbrev Y_X_word : qY := (⟨"FlushProofs", "word", "()I"⟩, prog_1_method_2_code, 1, (some .int))
abbrev Y_X_truth : qY := (⟨"FlushProofs", "truth", "()I"⟩, prog_1_method_3_code, 1, (some .int))
abbrev Y_X_requireNode : qY := (⟨"FlushProofs", "requireNode", "(I)V"⟩, prog_1_method_19_code, 2, none)
abbrev Y_X_requireWord : qY := (⟨"FlushProofs", "requireWord", "(I)V"⟩, prog_1_method_21_code, 2, none)
abbrev Y_X_landed : qY := (⟨"FlushProofs", "landed", "(I)I"⟩, prog_1_method_26_code, 1, (some .int))
abbrev Y_X_apply : qY := (⟨"FlushProofs", "apply", "(III)I"⟩, prog_1_method_4_code, 4, (some .int))
abbrev Y_X_equal : qY := (⟨"FlushProofs", "equal", "(II)I"⟩, prog_1_method_5_code, 3, (some .int))
abbrev Y_X_requireTruth : qY := (⟨"FlushProofs", "requireTruth", "(I)V"⟩, prog_1_method_22_code, 2, none)
abbrev Y_X_not : qY := (⟨"FlushProofs", "not", "(I)I"⟩, prog_1_method_6_code, 2, (some .int))
abbrev Y_X_both : qY := (⟨"FlushProofs", "both", "(II)I"⟩, prog_1_method_7_code, 3, (some .int))
abbrev Y_X_requireSameSort : qY := (⟨"FlushProofs", "requireSameSort", "(II)V"⟩, prog_1_method_23_code, 3, none)
abbrev Y_X_choice : qY := (⟨"FlushProofs", "choice", "(III)I"⟩, prog_1_method_8_code, 4, (some .int))
abbrev Y_X_requireElement : qY := (⟨"FlushProofs", "requireElement", "(I)V"⟩, prog_1_method_20_code, 2, none)
abbrev Y_X_next : qY := (⟨"FlushProofs", "next", "(II)Z"⟩, prog_1_method_9_code, 3, (some .boolean))
abbrev Y_X_requireNoFetch : qY := (⟨"FlushProofs", "requireNoFetch", "(I)V"⟩, prog_1_method_24_code, 2, none)
abbrev Y_X_plain : qY := (⟨"FlushProofs", "plain", "(II)Z"⟩, prog_1_method_10_code, 3, (some .boolean))
abbrev Y_X_invariant : qY := (⟨"FlushProofs", "invariant", "(I)I"⟩, prog_1_method_11_code, 2, (some .int))
abbrev Y_X_makeRoom : qY := (⟨"FlushProofs", "makeRoom", "(I)V"⟩, prog_1_method_27_code, 5, none)
abbrev Y_X_run : qY := (⟨"FlushProofs", "run", "(I)I"⟩, prog_1_method_12_code, 2, (some .int))
abbrev Y_X_kept : qY := (⟨"FlushProofs", "kept", "(I)I"⟩, prog_1_method_13_code, 2, (some .int))
abbrev Y_X_requireFailure : qY := (⟨"FlushProofs", "requireFailure", "()V"⟩, prog_1_method_25_code, 1, none)
abbrev Y_X_witness : qY := (⟨"FlushProofs", "witness", "(I)I"⟩, prog_1_method_14_code, 2, (some .int))
abbrev Y_X_differs : qY := (⟨"FlushProofs", "differs", "()I"⟩, prog_1_method_15_code, 1, (some .int))
abbrev Y_X_node : qY := (⟨"FlushProofs", "node", "(II)I"⟩, prog_1_method_16_code, 3, (some .int))
abbrev Y_X_count : qY := (⟨"FlushProofs", "count", "(I)I"⟩, prog_1_method_17_code, 2, (some .int))
abbrev Y_XModel_chainOf : qY := (⟨"FlushProofsModel", "chainOf", "(IIII)I"⟩, prog_10_method_5_code, 4, (some .int))
abbrev Y_XModel_link : qY := (⟨"FlushProofsModel", "link", "(I)V"⟩, prog_10_method_6_code, 3, none)
abbrev Y_XModel_begin : qY := (⟨"FlushProofsModel", "begin", "()V"⟩, prog_10_method_7_code, 2, none)
abbrev Y_XModel_init : qY := (⟨"FlushProofsModel", "<init>", "()V"⟩, prog_10_method_1_code, 2, none)
abbrev Y_XModel_fail : qY := (⟨"FlushProofsModel", "fail", "(I)I"⟩, prog_10_method_3_code, 2, (some .int))
abbrev Y_XModel_add : qY := (⟨"FlushProofsModel", "add", "(IIII)I"⟩, prog_10_method_9_code, 5, (some .int))
abbrev Y_XModel_addElement : qY := (⟨"FlushProofsModel", "addElement", "(I)I"⟩, prog_10_method_16_code, 3, (some .int))
abbrev Y_XModel_word : qY := (⟨"FlushProofsModel", "word", "()I"⟩, prog_10_method_17_code, 1, (some .int))
abbrev Y_XModel_thrown : qY := (⟨"FlushProofsModel", "thrown", "()I"⟩, prog_10_method_2_code, 1, (some .int))
abbrev Y_XModel_truth : qY := (⟨"FlushProofsModel", "truth", "()I"⟩, prog_10_method_18_code, 1, (some .int))
abbrev Y_XModel_within : qY := (⟨"FlushProofsModel", "within", "(III)Z"⟩, prog_10_method_4_code, 3, (some .boolean))
abbrev Y_XModel_isNode : qY := (⟨"FlushProofsModel", "isNode", "(I)Z"⟩, prog_10_method_14_code, 2, (some .boolean))
abbrev Y_XModel_isWord : qY := (⟨"FlushProofsModel", "isWord", "(I)Z"⟩, prog_10_method_15_code, 3, (some .boolean))
abbrev Y_XModel_plainest : qY := (⟨"FlushProofsModel", "plainest", "(IIII)I"⟩, prog_10_method_11_code, 5, (some .int))
abbrev Y_XModel_find : qY := (⟨"FlushProofsModel", "find", "(IIII)I"⟩, prog_10_method_8_code, 6, (some .int))
abbrev Y_XModel_told : qY := (⟨"FlushProofsModel", "told", "(IIIII)I"⟩, prog_10_method_13_code, 8, (some .int))
abbrev Y_XModel_apply : qY := (⟨"FlushProofsModel", "apply", "(III)I"⟩, prog_10_method_19_code, 4, (some .int))
abbrev Y_XModel_equal : qY := (⟨"FlushProofsModel", "equal", "(II)I"⟩, prog_10_method_20_code, 3, (some .int))
abbrev Y_XModel_not : qY := (⟨"FlushProofsModel", "not", "(I)I"⟩, prog_10_method_21_code, 2, (some .int))
abbrev Y_XModel_both : qY := (⟨"FlushProofsModel", "both", "(II)I"⟩, prog_10_method_22_code, 3, (some .int))
abbrev Y_XModel_choice : qY := (⟨"FlushProofsModel", "choice", "(III)I"⟩, prog_10_method_23_code, 4, (some .int))
abbrev Y_XModel_isElement : qY := (⟨"FlushProofsModel", "isElement", "(I)Z"⟩, prog_10_method_24_code, 2, (some .boolean))
abbrev Y_XModel_isOfSort : qY := (⟨"FlushProofsModel", "isOfSort", "(II)Z"⟩, prog_10_method_25_code, 3, (some .boolean))
abbrev Y_XModel_next : qY := (⟨"FlushProofsModel", "next", "(II)Z"⟩, prog_10_method_26_code, 4, (some .boolean))
abbrev Y_XModel_unmark : qY := (⟨"FlushProofsModel", "unmark", "()V"⟩, prog_10_method_29_code, 2, none)
abbrev Y_XModel_mark : qY := (⟨"FlushProofsModel", "mark", "(I)V"⟩, prog_10_method_27_code, 2, none)
abbrev Y_XModel_markParts : qY := (⟨"FlushProofsModel", "markParts", "()V"⟩, prog_10_method_28_code, 2, none)
abbrev Y_XModel_hasFetch : qY := (⟨"FlushProofsModel", "hasFetch", "(I)Z"⟩, prog_10_method_30_code, 2, (some .boolean))
abbrev Y_XModel_plain : qY := (⟨"FlushProofsModel", "plain", "(II)Z"⟩, prog_10_method_31_code, 4, (some .boolean))
abbrev Y_XModel_invariant : qY := (⟨"FlushProofsModel", "invariant", "(I)I"⟩, prog_10_method_32_code, 2, (some .int))
abbrev Y_XModel_beginState : qY := (⟨"FlushProofsModel", "beginState", "()V"⟩, prog_10_method_35_code, 2, none)
abbrev Y_XModel_get : qY := (⟨"FlushProofsModel", "get", "(IIII)I"⟩, prog_10_method_10_code, 6, (some .int))
abbrev Y_XModel_make : qY := (⟨"FlushProofsModel", "make", "(IIII)I"⟩, prog_10_method_12_code, 7, (some .int))
abbrev Y_XModel_putIn : qY := (⟨"FlushProofsModel", "putIn", "(I)V"⟩, prog_10_method_33_code, 4, none)
abbrev Y_XModel_step : qY := (⟨"FlushProofsModel", "step", "(I)V"⟩, prog_10_method_34_code, 3, none)
abbrev Y_XModel_gather : qY := (⟨"FlushProofsModel", "gather", "()V"⟩, prog_10_method_36_code, 4, none)
abbrev Y_XModel_work : qY := (⟨"FlushProofsModel", "work", "()V"⟩, prog_10_method_38_code, 2, none)
abbrev Y_XModel_areFunctions : qY := (⟨"FlushProofsModel", "areFunctions", "()Z"⟩, prog_10_method_39_code, 7, (some .boolean))
abbrev Y_XModel_failing : qY := (⟨"FlushProofsModel", "failing", "(I)I"⟩, prog_10_method_40_code, 3, (some .int))
abbrev Y_XModel_goesOn : qY := (⟨"FlushProofsModel", "goesOn", "(II)Z"⟩, prog_10_method_37_code, 6, (some .boolean))
abbrev Y_XModel_failsWith : qY := (⟨"FlushProofsModel", "failsWith", "(I)I"⟩, prog_10_method_41_code, 5, (some .int))
abbrev Y_XModel_keepState : qY := (⟨"FlushProofsModel", "keepState", "(I)V"⟩, prog_10_method_42_code, 4, none)
abbrev Y_XModel_ask : qY := (⟨"FlushProofsModel", "ask", "(I)I"⟩, prog_10_method_43_code, 5, (some .int))
abbrev Y_XModel_run : qY := (⟨"FlushProofsModel", "run", "(I)I"⟩, prog_10_method_44_code, 3, (some .int))
abbrev Y_XModel_kept : qY := (⟨"FlushProofsModel", "kept", "(I)I"⟩, prog_10_method_45_code, 4, (some .int))
abbrev Y_XModel_witness : qY := (⟨"FlushProofsModel", "witness", "(I)I"⟩, prog_10_method_46_code, 2, (some .int))
abbrev Y_XModel_differs : qY := (⟨"FlushProofsModel", "differs", "()I"⟩, prog_10_method_47_code, 1, (some .int))
abbrev Y_XModel_node : qY := (⟨"FlushProofsModel", "node", "(II)I"⟩, prog_10_method_48_code, 3, (some .int))
abbrev Y_XModel_count : qY := (⟨"FlushProofsModel", "count", "(I)I"⟩, prog_10_method_49_code, 4, (some .int))
abbrev Y_XLaw_word : qY := (⟨"FlushProofsLaw", "word", "(LFlushProofs;[J)I"⟩, method_3_code, 3, (some .int))
abbrev Y_XLaw_truth : qY := (⟨"FlushProofsLaw", "truth", "(LFlushProofs;[J)I"⟩, method_4_code, 3, (some .int))
abbrev Y_XLaw_apply : qY := (⟨"FlushProofsLaw", "apply", "(LFlushProofs;III[J)I"⟩, method_5_code, 6, (some .int))
abbrev Y_XLaw_equal : qY := (⟨"FlushProofsLaw", "equal", "(LFlushProofs;II[J)I"⟩, method_6_code, 5, (some .int))
abbrev Y_XLaw_not : qY := (⟨"FlushProofsLaw", "not", "(LFlushProofs;I[J)I"⟩, method_7_code, 4, (some .int))
abbrev Y_XLaw_both : qY := (⟨"FlushProofsLaw", "both", "(LFlushProofs;II[J)I"⟩, method_8_code, 5, (some .int))
abbrev Y_XLaw_choice : qY := (⟨"FlushProofsLaw", "choice", "(LFlushProofs;III[J)I"⟩, method_9_code, 6, (some .int))
abbrev Y_XLaw_next : qY := (⟨"FlushProofsLaw", "next", "(LFlushProofs;II[J)I"⟩, method_10_code, 5, (some .int))
abbrev Y_XLaw_plain : qY := (⟨"FlushProofsLaw", "plain", "(LFlushProofs;II[J)I"⟩, method_11_code, 5, (some .int))
abbrev Y_XLaw_invariant : qY := (⟨"FlushProofsLaw", "invariant", "(LFlushProofs;I[J)I"⟩, method_12_code, 4, (some .int))
abbrev Y_XLaw_run : qY := (⟨"FlushProofsLaw", "run", "(LFlushProofs;I[J)I"⟩, method_13_code, 4, (some .int))
abbrev Y_XLaw_kept : qY := (⟨"FlushProofsLaw", "kept", "(LFlushProofs;I[J)I"⟩, method_14_code, 4, (some .int))
abbrev Y_XLaw_witness : qY := (⟨"FlushProofsLaw", "witness", "(LFlushProofs;I[J)I"⟩, method_15_code, 4, (some .int))
abbrev Y_XLaw_differs : qY := (⟨"FlushProofsLaw", "differs", "(LFlushProofs;[J)I"⟩, method_16_code, 3, (some .int))
abbrev Y_XLaw_node : qY := (⟨"FlushProofsLaw", "node", "(LFlushProofs;II[J)I"⟩, method_17_code, 5, (some .int))
abbrev Y_XLaw_law : qY := (⟨"FlushProofsLaw", "law", "([I)Z"⟩, code, 7, some .boolean)
def qHl : List (String × List (Nat × Nat × Nat × Nat)) := [("word", [(0, 8, 11, 13)]), ("truth", [(0, 8, 11, 13)]), ("apply", [(0, 12, 15, 22), (0, 12, 19, 24), (0, 12, 23, 13)]), ("equal", [(0, 10, 13, 22), (0, 10, 17, 24), (0, 10, 21, 13)]), ("not", [(0, 9, 12, 22), (0, 9, 15, 24), (0, 9, 18, 13)]), ("both", [(0, 10, 13, 22), (0, 10, 17, 24), (0, 10, 21, 13)]), ("choice", [(0, 12, 15, 22), (0, 12, 19, 24), (0, 12, 23, 13)]), ("next", [(0, 17, 20, 22), (0, 17, 24, 24)]), ("plain", [(0, 17, 20, 22), (0, 17, 24, 24)]), ("invariant", [(0, 9, 12, 22), (0, 9, 15, 24), (0, 9, 18, 50)]), ("run", [(0, 9, 12, 24)]), ("kept", [(0, 9, 12, 22)]), ("witness", [(0, 9, 12, 50), (0, 9, 15, 22)]), ("differs", [(0, 8, 11, 50)]), ("node", [(0, 10, 13, 22)])]
def qHd (Y : qY) : List (Nat × Nat × Nat × Nat) := if Y.1.cls == "FlushProofsLaw" then ((qHl.find? (fun q => q.1 == Y.1.name)).map (·.2)).getD [] else []
theorem qHd_ne {Y : qY} (h : (Y.1.cls == "FlushProofsLaw") = false) : qHd Y = [] := by unfold qHd; rw [h]; rfl
def qNc : List (String × String) := [("java/lang/IndexOutOfBoundsException", "java/lang/IllegalArgumentException"), ("java/lang/IndexOutOfBoundsException", "java/lang/UnsupportedOperationException"), ("java/lang/IndexOutOfBoundsException", "java/lang/IllegalStateException"), ("java/lang/IllegalArgumentException", "java/lang/IndexOutOfBoundsException"), ("java/lang/IllegalArgumentException", "java/lang/UnsupportedOperationException"), ("java/lang/IllegalArgumentException", "java/lang/IllegalStateException"), ("java/lang/UnsupportedOperationException", "java/lang/IndexOutOfBoundsException"), ("java/lang/UnsupportedOperationException", "java/lang/IllegalArgumentException"), ("java/lang/UnsupportedOperationException", "java/lang/IllegalStateException"), ("java/lang/IllegalStateException", "java/lang/IndexOutOfBoundsException"), ("java/lang/IllegalStateException", "java/lang/IllegalArgumentException"), ("java/lang/IllegalStateException", "java/lang/UnsupportedOperationException")]
def qMs : List qY := [Y_XNodes_init, Y_JArrays_fill, Y_XNodes_isWord, Y_XNodes_hasFetch, Y_XNodes_put, Y_XNodes_reset, Y_XCore_init, Y_XNodes_makeElement, Y_XCore_addElement, Y_XCore_tellNext, Y_XCore_tellPlain, Y_XCore_addInvariant, Y_XNodes_room, Y_XNodes_has, Y_XNodes_makeApplication, Y_XNodes_makeEquality, Y_XNodes_makeNot, Y_XNodes_makeBoth, Y_XNodes_makeChoice, Y_XNodes_makeDifference, Y_XNodes_imageOf, Y_XNodes_remakeAll, Y_XNodes_mark, Y_XNodes_spread, Y_XOutcome_init, Y_XOutcome_begin, Y_XOutcome_isTooLarge, Y_XPlanes_init, Y_XPlanes_truthOf, Y_XPlanes_setTruth, Y_XPlanes_setWord, Y_XPlanes_same, Y_XPlanes_choose, Y_XPlanes_reckon, Y_XQuestion_init, Y_XSearch_init, Y_XProver_init, Y_XProver_room, Y_XQuestion_begin, Y_XProver_putIn, Y_XQuestion_addInvariant, Y_XProver_begin, Y_XProver_takeImages, Y_XProver_step, Y_XProver_plainStep, Y_XProver_markInvariants, Y_XProver_countDeep, Y_XQuestion_addClaim, Y_XProver_askEquation, Y_XProver_askKept, Y_XProver_markNeeded, Y_XSearch_addTruth, Y_XSearch_addWord, Y_XSearch_collectNode, Y_XSearch_collect, Y_XSearch_levelOf, Y_XSearch_levelOfParts, Y_XSearch_setLevels, Y_XSearch_arrange, Y_XSearch_setTruths, Y_XSearch_reckonLevel, Y_XSearch_statesBelow, Y_XSearch_withInvariants, Y_JLong_bitCount, Y_XSearch_lowestClaim, Y_XSearch_look, Y_XSearch_statesOfUse, Y_XSearch_sameArguments, Y_XSearch_withFunctions, Y_XSearch_giveNumbers, Y_XSearch_findLeast, Y_XSearch_tell, Y_XProver_decide, Y_X_init, Y_X_requireRoomForElement, Y_X_word, Y_X_truth, Y_X_requireNode, Y_X_requireWord, Y_X_landed, Y_X_apply, Y_X_equal, Y_X_requireTruth, Y_X_not, Y_X_both, Y_X_requireSameSort, Y_X_choice, Y_X_requireElement, Y_X_next, Y_X_requireNoFetch, Y_X_plain, Y_X_invariant, Y_X_makeRoom, Y_X_run, Y_X_kept, Y_X_requireFailure, Y_X_witness, Y_X_differs, Y_X_node, Y_X_count, Y_XModel_chainOf, Y_XModel_link, Y_XModel_begin, Y_XModel_init, Y_XModel_fail, Y_XModel_add, Y_XModel_addElement, Y_XModel_word, Y_XModel_thrown, Y_XModel_truth, Y_XModel_within, Y_XModel_isNode, Y_XModel_isWord, Y_XModel_plainest, Y_XModel_find, Y_XModel_told, Y_XModel_apply, Y_XModel_equal, Y_XModel_not, Y_XModel_both, Y_XModel_choice, Y_XModel_isElement, Y_XModel_isOfSort, Y_XModel_next, Y_XModel_unmark, Y_XModel_mark, Y_XModel_markParts, Y_XModel_hasFetch, Y_XModel_plain, Y_XModel_invariant, Y_XModel_beginState, Y_XModel_get, Y_XModel_make, Y_XModel_putIn, Y_XModel_step, Y_XModel_gather, Y_XModel_work, Y_XModel_areFunctions, Y_XModel_failing, Y_XModel_goesOn, Y_XModel_failsWith, Y_XModel_keepState, Y_XModel_ask, Y_XModel_run, Y_XModel_kept, Y_XModel_witness, Y_XModel_differs, Y_XModel_node, Y_XModel_count, (objectInit, (⟨#[0xb1]⟩ : ByteArray), 1, none), (Lib.Math.max.name, Lib.Math.max.code, 2, (some .int)), (Lib.Math.min.name, Lib.Math.min.code, 2, (some .int))]
def qMi : List Nat := [105, 160, 168, 172, 164, 157, 99, 490, 486, 637, 654, 682, 304, 514, 556, 571, 593, 605, 621, 772, 730, 727, 759, 767, 214, 707, 784, 299, 865, 834, 903, 849, 854, 845, 262, 293, 254, 698, 717, 723, 739, 712, 747, 743, 751, 755, 763, 776, 703, 919, 788, 804, 808, 800, 796, 820, 816, 812, 825, 830, 841, 857, 861, 876, 883, 873, 890, 898, 894, 869, 792, 907, 780, 91, 413, 409, 497, 510, 550, 559, 506, 567, 588, 584, 601, 616, 612, 632, 628, 648, 644, 662, 694, 689, 914, 931, 927, 940, 947, 401, 965, 962, 958, 953, 1091, 1095, 1087, 1083, 1079, 1099, 1110, 1107, 1114, 1122, 1126, 1118, 1103, 1130, 1134, 1138, 1142, 1150, 1154, 1146, 1166, 1170, 1174, 1162, 1158, 1178, 1186, 1202, 1198, 1194, 1190, 1210, 1218, 1222, 1226, 1230, 1214, 1234, 1206, 1182, 1238, 1242, 1246, 1250, 1254, 94, 577, 574]
def qTT : List Cond := [
  Cond.laysFinal "FlushProofs" "FlushProofs" "core" "LFlushProofs$Core;",
  Cond.laysFinal "FlushProofs" "FlushProofs" "outcome" "LFlushProofs$Outcome;",
  Cond.lays "FlushProofs" "FlushProofs" "prover" "LFlushProofs$Prover;",
  Cond.laysFinal "FlushProofs$Core" "FlushProofs$Core" "nodes" "LFlushProofs$Nodes;",
  Cond.laysFinal "FlushProofs$Core" "FlushProofs$Core" "elementNodes" "[I",
  Cond.laysFinal "FlushProofs$Core" "FlushProofs$Core" "nextNodes" "[I",
  Cond.laysFinal "FlushProofs$Core" "FlushProofs$Core" "plainNodes" "[I",
  Cond.laysFinal "FlushProofs$Core" "FlushProofs$Core" "invariants" "[I",
  Cond.lays "FlushProofs$Core" "FlushProofs$Core" "elementCount" "I",
  Cond.lays "FlushProofs$Core" "FlushProofs$Core" "seenCount" "I",
  Cond.lays "FlushProofs$Core" "FlushProofs$Core" "invariantCount" "I",
  Cond.laysFinal "FlushProofs$Nodes" "FlushProofs$Nodes" "kinds" "[I",
  Cond.laysFinal "FlushProofs$Nodes" "FlushProofs$Nodes" "firsts" "[I",
  Cond.laysFinal "FlushProofs$Nodes" "FlushProofs$Nodes" "seconds" "[I",
  Cond.laysFinal "FlushProofs$Nodes" "FlushProofs$Nodes" "thirds" "[I",
  Cond.laysFinal "FlushProofs$Nodes" "FlushProofs$Nodes" "words" "[Z",
  Cond.laysFinal "FlushProofs$Nodes" "FlushProofs$Nodes" "fetches" "[Z",
  Cond.laysFinal "FlushProofs$Nodes" "FlushProofs$Nodes" "heads" "[I",
  Cond.laysFinal "FlushProofs$Nodes" "FlushProofs$Nodes" "links" "[I",
  Cond.lays "FlushProofs$Nodes" "FlushProofs$Nodes" "used" "I",
  Cond.laysFinal "FlushProofs$Outcome" "FlushProofs$Outcome" "values" "[I",
  Cond.lays "FlushProofs$Outcome" "FlushProofs$Outcome" "answer" "I",
  Cond.lays "FlushProofs$Outcome" "FlushProofs$Outcome" "elementCount" "I",
  Cond.lays "FlushProofs$Outcome" "FlushProofs$Outcome" "fetch" "I",
  Cond.lays "FlushProofs$Outcome" "FlushProofs$Outcome" "differing" "I",
  Cond.lays "FlushProofs$Outcome" "FlushProofs$Outcome" "deepWords" "I",
  Cond.lays "FlushProofs$Outcome" "FlushProofs$Outcome" "deepTruths" "I",
  Cond.laysFinal "FlushProofs$Planes" "FlushProofs$Planes" "work" "LFlushProofs$Nodes;",
  Cond.laysFinal "FlushProofs$Planes" "FlushProofs$Planes" "lows" "[J",
  Cond.laysFinal "FlushProofs$Planes" "FlushProofs$Planes" "mids" "[J",
  Cond.laysFinal "FlushProofs$Planes" "FlushProofs$Planes" "highs" "[J",
  Cond.laysFinal "FlushProofs$Prover" "FlushProofs$Prover" "work" "LFlushProofs$Nodes;",
  Cond.laysFinal "FlushProofs$Prover" "FlushProofs$Prover" "question" "LFlushProofs$Question;",
  Cond.laysFinal "FlushProofs$Prover" "FlushProofs$Prover" "search" "LFlushProofs$Search;",
  Cond.laysFinal "FlushProofs$Prover" "FlushProofs$Prover" "marks" "[Z",
  Cond.laysFinal "FlushProofs$Prover" "FlushProofs$Prover" "images" "[I",
  Cond.laysFinal "FlushProofs$Prover" "FlushProofs$Prover" "oneWay" "[I",
  Cond.laysFinal "FlushProofs$Prover" "FlushProofs$Prover" "otherWay" "[I",
  Cond.laysFinal "FlushProofs$Question" "FlushProofs$Question" "invariants" "[I",
  Cond.laysFinal "FlushProofs$Question" "FlushProofs$Question" "claims" "[I",
  Cond.laysFinal "FlushProofs$Question" "FlushProofs$Question" "claimElements" "[I",
  Cond.lays "FlushProofs$Question" "FlushProofs$Question" "invariantCount" "I",
  Cond.lays "FlushProofs$Question" "FlushProofs$Question" "claimCount" "I",
  Cond.laysFinal "FlushProofs$Search" "FlushProofs$Search" "work" "LFlushProofs$Nodes;",
  Cond.laysFinal "FlushProofs$Search" "FlushProofs$Search" "question" "LFlushProofs$Question;",
  Cond.laysFinal "FlushProofs$Search" "FlushProofs$Search" "planes" "LFlushProofs$Planes;",
  Cond.laysFinal "FlushProofs$Search" "FlushProofs$Search" "truths" "[I",
  Cond.laysFinal "FlushProofs$Search" "FlushProofs$Search" "words" "[I",
  Cond.laysFinal "FlushProofs$Search" "FlushProofs$Search" "values" "[I",
  Cond.laysFinal "FlushProofs$Search" "FlushProofs$Search" "levels" "[I",
  Cond.laysFinal "FlushProofs$Search" "FlushProofs$Search" "order" "[I",
  Cond.laysFinal "FlushProofs$Search" "FlushProofs$Search" "starts" "[I",
  Cond.laysFinal "FlushProofs$Search" "FlushProofs$Search" "leastValues" "[I",
  Cond.lays "FlushProofs$Search" "FlushProofs$Search" "truthCount" "I",
  Cond.lays "FlushProofs$Search" "FlushProofs$Search" "wordCount" "I",
  Cond.lays "FlushProofs$Search" "FlushProofs$Search" "wordElementCount" "I",
  Cond.lays "FlushProofs$Search" "FlushProofs$Search" "leastIndex" "I",
  Cond.lays "FlushProofs$Search" "FlushProofs$Search" "leastClaim" "I",
  Cond.lays "FlushProofsModel" "FlushProofsModel" "thrown" "I",
  Cond.lays "FlushProofsModel" "FlushProofsModel" "nodes" "I",
  Cond.lays "FlushProofsModel" "FlushProofsModel" "all" "I",
  Cond.laysFinal "FlushProofsModel" "FlushProofsModel" "kind" "[I",
  Cond.laysFinal "FlushProofsModel" "FlushProofsModel" "one" "[I",
  Cond.laysFinal "FlushProofsModel" "FlushProofsModel" "two" "[I",
  Cond.laysFinal "FlushProofsModel" "FlushProofsModel" "three" "[I",
  Cond.laysFinal "FlushProofsModel" "FlushProofsModel" "chain" "[I",
  Cond.laysFinal "FlushProofsModel" "FlushProofsModel" "behind" "[I",
  Cond.lays "FlushProofsModel" "FlushProofsModel" "elements" "I",
  Cond.lays "FlushProofsModel" "FlushProofsModel" "invariants" "I",
  Cond.laysFinal "FlushProofsModel" "FlushProofsModel" "element" "[I",
  Cond.laysFinal "FlushProofsModel" "FlushProofsModel" "next" "[I",
  Cond.laysFinal "FlushProofsModel" "FlushProofsModel" "hasNext" "[Z",
  Cond.laysFinal "FlushProofsModel" "FlushProofsModel" "plain" "[I",
  Cond.laysFinal "FlushProofsModel" "FlushProofsModel" "seen" "[Z",
  Cond.laysFinal "FlushProofsModel" "FlushProofsModel" "invariant" "[I",
  Cond.laysFinal "FlushProofsModel" "FlushProofsModel" "made" "[I",
  Cond.laysFinal "FlushProofsModel" "FlushProofsModel" "state" "[I",
  Cond.laysFinal "FlushProofsModel" "FlushProofsModel" "oneWay" "[I",
  Cond.laysFinal "FlushProofsModel" "FlushProofsModel" "otherWay" "[I",
  Cond.laysFinal "FlushProofsModel" "FlushProofsModel" "deep" "[Z",
  Cond.laysFinal "FlushProofsModel" "FlushProofsModel" "value" "[I",
  Cond.lays "FlushProofsModel" "FlushProofsModel" "words" "I",
  Cond.lays "FlushProofsModel" "FlushProofsModel" "applications" "I",
  Cond.lays "FlushProofsModel" "FlushProofsModel" "truths" "I",
  Cond.laysFinal "FlushProofsModel" "FlushProofsModel" "wordNode" "[I",
  Cond.laysFinal "FlushProofsModel" "FlushProofsModel" "fall" "[I",
  Cond.laysFinal "FlushProofsModel" "FlushProofsModel" "truthNode" "[I",
  Cond.lays "FlushProofsModel" "FlushProofsModel" "deepWords" "I",
  Cond.lays "FlushProofsModel" "FlushProofsModel" "deepTruths" "I",
  Cond.lays "FlushProofsModel" "FlushProofsModel" "isAnswered" "Z",
  Cond.laysFinal "FlushProofsModel" "FlushProofsModel" "witness" "[I",
  Cond.lays "FlushProofsModel" "FlushProofsModel" "fetchThere" "I",
  Cond.lays "FlushProofsModel" "FlushProofsModel" "differs" "I",
  Cond.lays "FlushProofsModel" "FlushProofsModel" "answeredElements" "I",
  Cond.fieldLink "FlushProofs$Core" 14 "FlushProofs$Core" "nodes" "LFlushProofs$Nodes;",
  Cond.fieldLink "FlushProofs$Core" 23 "FlushProofs$Core" "elementNodes" "[I",
  Cond.fieldLink "FlushProofs$Core" 27 "FlushProofs$Core" "nextNodes" "[I",
  Cond.fieldLink "FlushProofs$Core" 30 "FlushProofs$Core" "plainNodes" "[I",
  Cond.fieldLink "FlushProofs$Core" 33 "FlushProofs$Core" "invariants" "[I",
  Cond.fieldLink "FlushProofs$Core" 36 "FlushProofs$Core" "elementCount" "I",
  Cond.fieldLink "FlushProofs$Core" 44 "FlushProofs$Core" "seenCount" "I",
  Cond.fieldLink "FlushProofs$Core" 47 "FlushProofs$Core" "invariantCount" "I",
  Cond.fieldLink "FlushProofsModel" 119 "FlushProofsModel" "elements" "I",
  Cond.fieldLink "FlushProofsModel" 13 "FlushProofsModel" "kind" "[I",
  Cond.fieldLink "FlushProofsModel" 155 "FlushProofsModel" "invariants" "I",
  Cond.fieldLink "FlushProofsModel" 164 "FlushProofsModel" "words" "I",
  Cond.fieldLink "FlushProofsModel" 167 "FlushProofsModel" "truths" "I",
  Cond.fieldLink "FlushProofsModel" 17 "FlushProofsModel" "one" "[I",
  Cond.fieldLink "FlushProofsModel" 170 "FlushProofsModel" "deepWords" "I",
  Cond.fieldLink "FlushProofsModel" 173 "FlushProofsModel" "deepTruths" "I",
  Cond.fieldLink "FlushProofsModel" 176 "FlushProofsModel" "applications" "I",
  Cond.fieldLink "FlushProofsModel" 192 "FlushProofsModel" "fetchThere" "I",
  Cond.fieldLink "FlushProofsModel" 195 "FlushProofsModel" "differs" "I",
  Cond.fieldLink "FlushProofsModel" 198 "FlushProofsModel" "answeredElements" "I",
  Cond.fieldLink "FlushProofsModel" 20 "FlushProofsModel" "two" "[I",
  Cond.fieldLink "FlushProofsModel" 201 "FlushProofsModel" "isAnswered" "Z",
  Cond.fieldLink "FlushProofsModel" 23 "FlushProofsModel" "three" "[I",
  Cond.fieldLink "FlushProofsModel" 26 "FlushProofsModel" "chain" "[I",
  Cond.fieldLink "FlushProofsModel" 29 "FlushProofsModel" "behind" "[I",
  Cond.fieldLink "FlushProofsModel" 32 "FlushProofsModel" "element" "[I",
  Cond.fieldLink "FlushProofsModel" 35 "FlushProofsModel" "next" "[I",
  Cond.fieldLink "FlushProofsModel" 38 "FlushProofsModel" "hasNext" "[Z",
  Cond.fieldLink "FlushProofsModel" 42 "FlushProofsModel" "plain" "[I",
  Cond.fieldLink "FlushProofsModel" 45 "FlushProofsModel" "seen" "[Z",
  Cond.fieldLink "FlushProofsModel" 48 "FlushProofsModel" "invariant" "[I",
  Cond.fieldLink "FlushProofsModel" 51 "FlushProofsModel" "made" "[I",
  Cond.fieldLink "FlushProofsModel" 54 "FlushProofsModel" "state" "[I",
  Cond.fieldLink "FlushProofsModel" 57 "FlushProofsModel" "oneWay" "[I",
  Cond.fieldLink "FlushProofsModel" 60 "FlushProofsModel" "otherWay" "[I",
  Cond.fieldLink "FlushProofsModel" 63 "FlushProofsModel" "deep" "[Z",
  Cond.fieldLink "FlushProofsModel" 66 "FlushProofsModel" "value" "[I",
  Cond.fieldLink "FlushProofsModel" 69 "FlushProofsModel" "wordNode" "[I",
  Cond.fieldLink "FlushProofsModel" 7 "FlushProofsModel" "nodes" "I",
  Cond.fieldLink "FlushProofsModel" 72 "FlushProofsModel" "fall" "[I",
  Cond.fieldLink "FlushProofsModel" 75 "FlushProofsModel" "truthNode" "[I",
  Cond.fieldLink "FlushProofsModel" 78 "FlushProofsModel" "witness" "[I",
  Cond.fieldLink "FlushProofsModel" 81 "FlushProofsModel" "all" "I",
  Cond.fieldLink "FlushProofsModel" 87 "FlushProofsModel" "thrown" "I",
  Cond.fieldLink "FlushProofs$Nodes" 15 "FlushProofs$Nodes" "firsts" "[I",
  Cond.fieldLink "FlushProofs$Nodes" 18 "FlushProofs$Nodes" "seconds" "[I",
  Cond.fieldLink "FlushProofs$Nodes" 21 "FlushProofs$Nodes" "thirds" "[I",
  Cond.fieldLink "FlushProofs$Nodes" 24 "FlushProofs$Nodes" "words" "[Z",
  Cond.fieldLink "FlushProofs$Nodes" 28 "FlushProofs$Nodes" "fetches" "[Z",
  Cond.fieldLink "FlushProofs$Nodes" 31 "FlushProofs$Nodes" "links" "[I",
  Cond.fieldLink "FlushProofs$Nodes" 34 "FlushProofs$Nodes" "heads" "[I",
  Cond.fieldLink "FlushProofs$Nodes" 43 "FlushProofs$Nodes" "used" "I",
  Cond.fieldLink "FlushProofs$Nodes" 9 "FlushProofs$Nodes" "kinds" "[I",
  Cond.fieldLink "FlushProofs$Outcome" 15 "FlushProofs$Outcome" "answer" "I",
  Cond.fieldLink "FlushProofs$Outcome" 25 "FlushProofs$Outcome" "elementCount" "I",
  Cond.fieldLink "FlushProofs$Outcome" 28 "FlushProofs$Outcome" "fetch" "I",
  Cond.fieldLink "FlushProofs$Outcome" 31 "FlushProofs$Outcome" "deepWords" "I",
  Cond.fieldLink "FlushProofs$Outcome" 34 "FlushProofs$Outcome" "deepTruths" "I",
  Cond.fieldLink "FlushProofs$Outcome" 9 "FlushProofs$Outcome" "values" "[I",
  Cond.fieldLink "FlushProofs$Planes" 21 "FlushProofs$Planes" "lows" "[J",
  Cond.fieldLink "FlushProofs$Planes" 25 "FlushProofs$Planes" "mids" "[J",
  Cond.fieldLink "FlushProofs$Planes" 28 "FlushProofs$Planes" "highs" "[J",
  Cond.fieldLink "FlushProofs$Planes" 9 "FlushProofs$Planes" "work" "LFlushProofs$Nodes;",
  Cond.fieldLink "FlushProofs$Prover" 14 "FlushProofs$Prover" "work" "LFlushProofs$Nodes;",
  Cond.fieldLink "FlushProofs$Prover" 23 "FlushProofs$Prover" "question" "LFlushProofs$Question;",
  Cond.fieldLink "FlushProofs$Prover" 32 "FlushProofs$Prover" "search" "LFlushProofs$Search;",
  Cond.fieldLink "FlushProofs$Prover" 36 "FlushProofs$Prover" "marks" "[Z",
  Cond.fieldLink "FlushProofs$Prover" 40 "FlushProofs$Prover" "images" "[I",
  Cond.fieldLink "FlushProofs$Prover" 44 "FlushProofs$Prover" "oneWay" "[I",
  Cond.fieldLink "FlushProofs$Prover" 47 "FlushProofs$Prover" "otherWay" "[I",
  Cond.fieldLink "FlushProofs$Question" 15 "FlushProofs$Question" "claims" "[I",
  Cond.fieldLink "FlushProofs$Question" 18 "FlushProofs$Question" "claimElements" "[I",
  Cond.fieldLink "FlushProofs$Question" 21 "FlushProofs$Question" "invariantCount" "I",
  Cond.fieldLink "FlushProofs$Question" 25 "FlushProofs$Question" "claimCount" "I",
  Cond.fieldLink "FlushProofs$Question" 9 "FlushProofs$Question" "invariants" "[I",
  Cond.fieldLink "FlushProofs$Search" 112 "FlushProofs$Search" "wordElementCount" "I",
  Cond.fieldLink "FlushProofs$Search" 115 "FlushProofs$Search" "wordCount" "I",
  Cond.fieldLink "FlushProofs$Search" 15 "FlushProofs$Search" "question" "LFlushProofs$Question;",
  Cond.fieldLink "FlushProofs$Search" 24 "FlushProofs$Search" "planes" "LFlushProofs$Planes;",
  Cond.fieldLink "FlushProofs$Search" 28 "FlushProofs$Search" "truths" "[I",
  Cond.fieldLink "FlushProofs$Search" 32 "FlushProofs$Search" "words" "[I",
  Cond.fieldLink "FlushProofs$Search" 35 "FlushProofs$Search" "values" "[I",
  Cond.fieldLink "FlushProofs$Search" 44 "FlushProofs$Search" "levels" "[I",
  Cond.fieldLink "FlushProofs$Search" 47 "FlushProofs$Search" "order" "[I",
  Cond.fieldLink "FlushProofs$Search" 50 "FlushProofs$Search" "starts" "[I",
  Cond.fieldLink "FlushProofs$Search" 53 "FlushProofs$Search" "leastValues" "[I",
  Cond.fieldLink "FlushProofs$Search" 56 "FlushProofs$Search" "leastIndex" "I",
  Cond.fieldLink "FlushProofs$Search" 60 "FlushProofs$Search" "leastClaim" "I",
  Cond.fieldLink "FlushProofs$Search" 80 "FlushProofs$Search" "truthCount" "I",
  Cond.fieldLink "FlushProofs$Search" 9 "FlushProofs$Search" "work" "LFlushProofs$Nodes;",
  Cond.fieldLink "FlushProofs" 10 "FlushProofs" "core" "LFlushProofs$Core;",
  Cond.fieldLink "FlushProofs" 19 "FlushProofs" "outcome" "LFlushProofs$Outcome;",
  Cond.fieldLink "FlushProofs" 28 "FlushProofs" "prover" "LFlushProofs$Prover;",
  Cond.initialized "FlushProofs$Nodes",
  Cond.instanceMethod ⟨"FlushProofs$Nodes", "reset", "()V"⟩,
  Cond.selects "FlushProofs$Nodes" ⟨"FlushProofs$Nodes", "reset", "()V"⟩ ⟨"FlushProofs$Nodes", "reset", "()V"⟩,
  Cond.methodLink "FlushProofs$Core" 20 ⟨"FlushProofs$Nodes", "reset", "()V"⟩,
  Cond.instanceMethod ⟨"FlushProofs$Nodes", "makeElement", "(II)I"⟩,
  Cond.selects "FlushProofs$Nodes" ⟨"FlushProofs$Nodes", "makeElement", "(II)I"⟩ ⟨"FlushProofs$Nodes", "makeElement", "(II)I"⟩,
  Cond.methodLink "FlushProofs$Core" 40 ⟨"FlushProofs$Nodes", "makeElement", "(II)I"⟩,
  Cond.initialized "FlushProofsModel",
  Cond.instanceMethod ⟨"FlushProofsModel", "choice", "(III)I"⟩,
  Cond.selects "FlushProofsModel" ⟨"FlushProofsModel", "choice", "(III)I"⟩ ⟨"FlushProofsModel", "choice", "(III)I"⟩,
  Cond.methodLink "FlushProofsLaw" 100 ⟨"FlushProofsModel", "choice", "(III)I"⟩,
  Cond.instanceMethod ⟨"FlushProofsModel", "next", "(II)Z"⟩,
  Cond.selects "FlushProofsModel" ⟨"FlushProofsModel", "next", "(II)Z"⟩ ⟨"FlushProofsModel", "next", "(II)Z"⟩,
  Cond.methodLink "FlushProofsLaw" 103 ⟨"FlushProofsModel", "next", "(II)Z"⟩,
  Cond.instanceMethod ⟨"FlushProofsModel", "plain", "(II)Z"⟩,
  Cond.selects "FlushProofsModel" ⟨"FlushProofsModel", "plain", "(II)Z"⟩ ⟨"FlushProofsModel", "plain", "(II)Z"⟩,
  Cond.methodLink "FlushProofsLaw" 106 ⟨"FlushProofsModel", "plain", "(II)Z"⟩,
  Cond.instanceMethod ⟨"FlushProofsModel", "invariant", "(I)I"⟩,
  Cond.selects "FlushProofsModel" ⟨"FlushProofsModel", "invariant", "(I)I"⟩ ⟨"FlushProofsModel", "invariant", "(I)I"⟩,
  Cond.methodLink "FlushProofsLaw" 109 ⟨"FlushProofsModel", "invariant", "(I)I"⟩,
  Cond.instanceMethod ⟨"FlushProofsModel", "run", "(I)I"⟩,
  Cond.selects "FlushProofsModel" ⟨"FlushProofsModel", "run", "(I)I"⟩ ⟨"FlushProofsModel", "run", "(I)I"⟩,
  Cond.methodLink "FlushProofsLaw" 112 ⟨"FlushProofsModel", "run", "(I)I"⟩,
  Cond.instanceMethod ⟨"FlushProofsModel", "kept", "(I)I"⟩,
  Cond.selects "FlushProofsModel" ⟨"FlushProofsModel", "kept", "(I)I"⟩ ⟨"FlushProofsModel", "kept", "(I)I"⟩,
  Cond.methodLink "FlushProofsLaw" 115 ⟨"FlushProofsModel", "kept", "(I)I"⟩,
  Cond.instanceMethod ⟨"FlushProofsModel", "witness", "(I)I"⟩,
  Cond.selects "FlushProofsModel" ⟨"FlushProofsModel", "witness", "(I)I"⟩ ⟨"FlushProofsModel", "witness", "(I)I"⟩,
  Cond.methodLink "FlushProofsLaw" 118 ⟨"FlushProofsModel", "witness", "(I)I"⟩,
  Cond.instanceMethod ⟨"FlushProofsModel", "differs", "()I"⟩,
  Cond.selects "FlushProofsModel" ⟨"FlushProofsModel", "differs", "()I"⟩ ⟨"FlushProofsModel", "differs", "()I"⟩,
  Cond.methodLink "FlushProofsLaw" 121 ⟨"FlushProofsModel", "differs", "()I"⟩,
  Cond.instanceMethod ⟨"FlushProofsModel", "node", "(II)I"⟩,
  Cond.selects "FlushProofsModel" ⟨"FlushProofsModel", "node", "(II)I"⟩ ⟨"FlushProofsModel", "node", "(II)I"⟩,
  Cond.methodLink "FlushProofsLaw" 124 ⟨"FlushProofsModel", "node", "(II)I"⟩,
  Cond.initialized "FlushProofs",
  Cond.instanceMethod ⟨"FlushProofs", "count", "(I)I"⟩,
  Cond.selects "FlushProofs" ⟨"FlushProofs", "count", "(I)I"⟩ ⟨"FlushProofs", "count", "(I)I"⟩,
  Cond.methodLink "FlushProofsLaw" 125 ⟨"FlushProofs", "count", "(I)I"⟩,
  Cond.instanceMethod ⟨"FlushProofsModel", "count", "(I)I"⟩,
  Cond.selects "FlushProofsModel" ⟨"FlushProofsModel", "count", "(I)I"⟩ ⟨"FlushProofsModel", "count", "(I)I"⟩,
  Cond.methodLink "FlushProofsLaw" 128 ⟨"FlushProofsModel", "count", "(I)I"⟩,
  Cond.instanceMethod ⟨"FlushProofs", "truth", "()I"⟩,
  Cond.selects "FlushProofs" ⟨"FlushProofs", "truth", "()I"⟩ ⟨"FlushProofs", "truth", "()I"⟩,
  Cond.methodLink "FlushProofsLaw" 15 ⟨"FlushProofs", "truth", "()I"⟩,
  Cond.instanceMethod ⟨"FlushProofs", "apply", "(III)I"⟩,
  Cond.selects "FlushProofs" ⟨"FlushProofs", "apply", "(III)I"⟩ ⟨"FlushProofs", "apply", "(III)I"⟩,
  Cond.methodLink "FlushProofsLaw" 18 ⟨"FlushProofs", "apply", "(III)I"⟩,
  Cond.instanceMethod ⟨"FlushProofs", "equal", "(II)I"⟩,
  Cond.selects "FlushProofs" ⟨"FlushProofs", "equal", "(II)I"⟩ ⟨"FlushProofs", "equal", "(II)I"⟩,
  Cond.methodLink "FlushProofsLaw" 26 ⟨"FlushProofs", "equal", "(II)I"⟩,
  Cond.instanceMethod ⟨"FlushProofs", "not", "(I)I"⟩,
  Cond.selects "FlushProofs" ⟨"FlushProofs", "not", "(I)I"⟩ ⟨"FlushProofs", "not", "(I)I"⟩,
  Cond.methodLink "FlushProofsLaw" 30 ⟨"FlushProofs", "not", "(I)I"⟩,
  Cond.instanceMethod ⟨"FlushProofs", "both", "(II)I"⟩,
  Cond.selects "FlushProofs" ⟨"FlushProofs", "both", "(II)I"⟩ ⟨"FlushProofs", "both", "(II)I"⟩,
  Cond.methodLink "FlushProofsLaw" 34 ⟨"FlushProofs", "both", "(II)I"⟩,
  Cond.instanceMethod ⟨"FlushProofs", "choice", "(III)I"⟩,
  Cond.selects "FlushProofs" ⟨"FlushProofs", "choice", "(III)I"⟩ ⟨"FlushProofs", "choice", "(III)I"⟩,
  Cond.methodLink "FlushProofsLaw" 37 ⟨"FlushProofs", "choice", "(III)I"⟩,
  Cond.instanceMethod ⟨"FlushProofs", "next", "(II)Z"⟩,
  Cond.selects "FlushProofs" ⟨"FlushProofs", "next", "(II)Z"⟩ ⟨"FlushProofs", "next", "(II)Z"⟩,
  Cond.methodLink "FlushProofsLaw" 40 ⟨"FlushProofs", "next", "(II)Z"⟩,
  Cond.instanceMethod ⟨"FlushProofs", "plain", "(II)Z"⟩,
  Cond.selects "FlushProofs" ⟨"FlushProofs", "plain", "(II)Z"⟩ ⟨"FlushProofs", "plain", "(II)Z"⟩,
  Cond.methodLink "FlushProofsLaw" 44 ⟨"FlushProofs", "plain", "(II)Z"⟩,
  Cond.instanceMethod ⟨"FlushProofs", "invariant", "(I)I"⟩,
  Cond.selects "FlushProofs" ⟨"FlushProofs", "invariant", "(I)I"⟩ ⟨"FlushProofs", "invariant", "(I)I"⟩,
  Cond.methodLink "FlushProofsLaw" 47 ⟨"FlushProofs", "invariant", "(I)I"⟩,
  Cond.instanceMethod ⟨"FlushProofs", "run", "(I)I"⟩,
  Cond.selects "FlushProofs" ⟨"FlushProofs", "run", "(I)I"⟩ ⟨"FlushProofs", "run", "(I)I"⟩,
  Cond.methodLink "FlushProofsLaw" 52 ⟨"FlushProofs", "run", "(I)I"⟩,
  Cond.instanceMethod ⟨"FlushProofs", "kept", "(I)I"⟩,
  Cond.selects "FlushProofs" ⟨"FlushProofs", "kept", "(I)I"⟩ ⟨"FlushProofs", "kept", "(I)I"⟩,
  Cond.methodLink "FlushProofsLaw" 55 ⟨"FlushProofs", "kept", "(I)I"⟩,
  Cond.instanceMethod ⟨"FlushProofs", "witness", "(I)I"⟩,
  Cond.selects "FlushProofs" ⟨"FlushProofs", "witness", "(I)I"⟩ ⟨"FlushProofs", "witness", "(I)I"⟩,
  Cond.methodLink "FlushProofsLaw" 58 ⟨"FlushProofs", "witness", "(I)I"⟩,
  Cond.instanceMethod ⟨"FlushProofs", "differs", "()I"⟩,
  Cond.selects "FlushProofs" ⟨"FlushProofs", "differs", "()I"⟩ ⟨"FlushProofs", "differs", "()I"⟩,
  Cond.methodLink "FlushProofsLaw" 61 ⟨"FlushProofs", "differs", "()I"⟩,
  Cond.instanceMethod ⟨"FlushProofs", "node", "(II)I"⟩,
  Cond.selects "FlushProofs" ⟨"FlushProofs", "node", "(II)I"⟩ ⟨"FlushProofs", "node", "(II)I"⟩,
  Cond.methodLink "FlushProofsLaw" 64 ⟨"FlushProofs", "node", "(II)I"⟩,
  Cond.instanceMethod ⟨"FlushProofs", "word", "()I"⟩,
  Cond.selects "FlushProofs" ⟨"FlushProofs", "word", "()I"⟩ ⟨"FlushProofs", "word", "()I"⟩,
  Cond.methodLink "FlushProofsLaw" 7 ⟨"FlushProofs", "word", "()I"⟩,
  Cond.instanceMethod ⟨"FlushProofsModel", "word", "()I"⟩,
  Cond.selects "FlushProofsModel" ⟨"FlushProofsModel", "word", "()I"⟩ ⟨"FlushProofsModel", "word", "()I"⟩,
  Cond.methodLink "FlushProofsLaw" 76 ⟨"FlushProofsModel", "word", "()I"⟩,
  Cond.instanceMethod ⟨"FlushProofsModel", "thrown", "()I"⟩,
  Cond.selects "FlushProofsModel" ⟨"FlushProofsModel", "thrown", "()I"⟩ ⟨"FlushProofsModel", "thrown", "()I"⟩,
  Cond.methodLink "FlushProofsLaw" 77 ⟨"FlushProofsModel", "thrown", "()I"⟩,
  Cond.instanceMethod ⟨"FlushProofsModel", "truth", "()I"⟩,
  Cond.selects "FlushProofsModel" ⟨"FlushProofsModel", "truth", "()I"⟩ ⟨"FlushProofsModel", "truth", "()I"⟩,
  Cond.methodLink "FlushProofsLaw" 82 ⟨"FlushProofsModel", "truth", "()I"⟩,
  Cond.instanceMethod ⟨"FlushProofsModel", "apply", "(III)I"⟩,
  Cond.selects "FlushProofsModel" ⟨"FlushProofsModel", "apply", "(III)I"⟩ ⟨"FlushProofsModel", "apply", "(III)I"⟩,
  Cond.methodLink "FlushProofsLaw" 86 ⟨"FlushProofsModel", "apply", "(III)I"⟩,
  Cond.instanceMethod ⟨"FlushProofsModel", "equal", "(II)I"⟩,
  Cond.selects "FlushProofsModel" ⟨"FlushProofsModel", "equal", "(II)I"⟩ ⟨"FlushProofsModel", "equal", "(II)I"⟩,
  Cond.methodLink "FlushProofsLaw" 90 ⟨"FlushProofsModel", "equal", "(II)I"⟩,
  Cond.instanceMethod ⟨"FlushProofsModel", "not", "(I)I"⟩,
  Cond.selects "FlushProofsModel" ⟨"FlushProofsModel", "not", "(I)I"⟩ ⟨"FlushProofsModel", "not", "(I)I"⟩,
  Cond.methodLink "FlushProofsLaw" 94 ⟨"FlushProofsModel", "not", "(I)I"⟩,
  Cond.instanceMethod ⟨"FlushProofsModel", "both", "(II)I"⟩,
  Cond.selects "FlushProofsModel" ⟨"FlushProofsModel", "both", "(II)I"⟩ ⟨"FlushProofsModel", "both", "(II)I"⟩,
  Cond.methodLink "FlushProofsLaw" 97 ⟨"FlushProofsModel", "both", "(II)I"⟩,
  Cond.instanceMethod ⟨"FlushProofsModel", "add", "(IIII)I"⟩,
  Cond.selects "FlushProofsModel" ⟨"FlushProofsModel", "add", "(IIII)I"⟩ ⟨"FlushProofsModel", "add", "(IIII)I"⟩,
  Cond.methodLink "FlushProofsModel" 102 ⟨"FlushProofsModel", "add", "(IIII)I"⟩,
  Cond.instanceMethod ⟨"FlushProofsModel", "plainest", "(IIII)I"⟩,
  Cond.selects "FlushProofsModel" ⟨"FlushProofsModel", "plainest", "(IIII)I"⟩ ⟨"FlushProofsModel", "plainest", "(IIII)I"⟩,
  Cond.methodLink "FlushProofsModel" 105 ⟨"FlushProofsModel", "plainest", "(IIII)I"⟩,
  Cond.instanceMethod ⟨"FlushProofsModel", "get", "(IIII)I"⟩,
  Cond.selects "FlushProofsModel" ⟨"FlushProofsModel", "get", "(IIII)I"⟩ ⟨"FlushProofsModel", "get", "(IIII)I"⟩,
  Cond.methodLink "FlushProofsModel" 108 ⟨"FlushProofsModel", "get", "(IIII)I"⟩,
  Cond.instanceMethod ⟨"FlushProofsModel", "fail", "(I)I"⟩,
  Cond.selects "FlushProofsModel" ⟨"FlushProofsModel", "fail", "(I)I"⟩ ⟨"FlushProofsModel", "fail", "(I)I"⟩,
  Cond.methodLink "FlushProofsModel" 111 ⟨"FlushProofsModel", "fail", "(I)I"⟩,
  Cond.instanceMethod ⟨"FlushProofsModel", "addElement", "(I)I"⟩,
  Cond.selects "FlushProofsModel" ⟨"FlushProofsModel", "addElement", "(I)I"⟩ ⟨"FlushProofsModel", "addElement", "(I)I"⟩,
  Cond.methodLink "FlushProofsModel" 122 ⟨"FlushProofsModel", "addElement", "(I)I"⟩,
  Cond.instanceMethod ⟨"FlushProofsModel", "isNode", "(I)Z"⟩,
  Cond.selects "FlushProofsModel" ⟨"FlushProofsModel", "isNode", "(I)Z"⟩ ⟨"FlushProofsModel", "isNode", "(I)Z"⟩,
  Cond.methodLink "FlushProofsModel" 125 ⟨"FlushProofsModel", "isNode", "(I)Z"⟩,
  Cond.instanceMethod ⟨"FlushProofsModel", "isWord", "(I)Z"⟩,
  Cond.selects "FlushProofsModel" ⟨"FlushProofsModel", "isWord", "(I)Z"⟩ ⟨"FlushProofsModel", "isWord", "(I)Z"⟩,
  Cond.methodLink "FlushProofsModel" 129 ⟨"FlushProofsModel", "isWord", "(I)Z"⟩,
  Cond.instanceMethod ⟨"FlushProofsModel", "told", "(IIIII)I"⟩,
  Cond.selects "FlushProofsModel" ⟨"FlushProofsModel", "told", "(IIIII)I"⟩ ⟨"FlushProofsModel", "told", "(IIIII)I"⟩,
  Cond.methodLink "FlushProofsModel" 132 ⟨"FlushProofsModel", "told", "(IIIII)I"⟩,
  Cond.instanceMethod ⟨"FlushProofsModel", "isElement", "(I)Z"⟩,
  Cond.selects "FlushProofsModel" ⟨"FlushProofsModel", "isElement", "(I)Z"⟩ ⟨"FlushProofsModel", "isElement", "(I)Z"⟩,
  Cond.methodLink "FlushProofsModel" 136 ⟨"FlushProofsModel", "isElement", "(I)Z"⟩,
  Cond.instanceMethod ⟨"FlushProofsModel", "isOfSort", "(II)Z"⟩,
  Cond.selects "FlushProofsModel" ⟨"FlushProofsModel", "isOfSort", "(II)Z"⟩ ⟨"FlushProofsModel", "isOfSort", "(II)Z"⟩,
  Cond.methodLink "FlushProofsModel" 139 ⟨"FlushProofsModel", "isOfSort", "(II)Z"⟩,
  Cond.instanceMethod ⟨"FlushProofsModel", "mark", "(I)V"⟩,
  Cond.selects "FlushProofsModel" ⟨"FlushProofsModel", "mark", "(I)V"⟩ ⟨"FlushProofsModel", "mark", "(I)V"⟩,
  Cond.methodLink "FlushProofsModel" 143 ⟨"FlushProofsModel", "mark", "(I)V"⟩,
  Cond.instanceMethod ⟨"FlushProofsModel", "unmark", "()V"⟩,
  Cond.selects "FlushProofsModel" ⟨"FlushProofsModel", "unmark", "()V"⟩ ⟨"FlushProofsModel", "unmark", "()V"⟩,
  Cond.methodLink "FlushProofsModel" 146 ⟨"FlushProofsModel", "unmark", "()V"⟩,
  Cond.instanceMethod ⟨"FlushProofsModel", "markParts", "()V"⟩,
  Cond.selects "FlushProofsModel" ⟨"FlushProofsModel", "markParts", "()V"⟩ ⟨"FlushProofsModel", "markParts", "()V"⟩,
  Cond.methodLink "FlushProofsModel" 149 ⟨"FlushProofsModel", "markParts", "()V"⟩,
  Cond.instanceMethod ⟨"FlushProofsModel", "hasFetch", "(I)Z"⟩,
  Cond.selects "FlushProofsModel" ⟨"FlushProofsModel", "hasFetch", "(I)Z"⟩ ⟨"FlushProofsModel", "hasFetch", "(I)Z"⟩,
  Cond.methodLink "FlushProofsModel" 152 ⟨"FlushProofsModel", "hasFetch", "(I)Z"⟩,
  Cond.instanceMethod ⟨"FlushProofsModel", "make", "(IIII)I"⟩,
  Cond.selects "FlushProofsModel" ⟨"FlushProofsModel", "make", "(IIII)I"⟩ ⟨"FlushProofsModel", "make", "(IIII)I"⟩,
  Cond.methodLink "FlushProofsModel" 158 ⟨"FlushProofsModel", "make", "(IIII)I"⟩,
  Cond.instanceMethod ⟨"FlushProofsModel", "putIn", "(I)V"⟩,
  Cond.selects "FlushProofsModel" ⟨"FlushProofsModel", "putIn", "(I)V"⟩ ⟨"FlushProofsModel", "putIn", "(I)V"⟩,
  Cond.methodLink "FlushProofsModel" 161 ⟨"FlushProofsModel", "putIn", "(I)V"⟩,
  Cond.instanceMethod ⟨"FlushProofsModel", "work", "()V"⟩,
  Cond.selects "FlushProofsModel" ⟨"FlushProofsModel", "work", "()V"⟩ ⟨"FlushProofsModel", "work", "()V"⟩,
  Cond.methodLink "FlushProofsModel" 179 ⟨"FlushProofsModel", "work", "()V"⟩,
  Cond.instanceMethod ⟨"FlushProofsModel", "areFunctions", "()Z"⟩,
  Cond.selects "FlushProofsModel" ⟨"FlushProofsModel", "areFunctions", "()Z"⟩ ⟨"FlushProofsModel", "areFunctions", "()Z"⟩,
  Cond.methodLink "FlushProofsModel" 182 ⟨"FlushProofsModel", "areFunctions", "()Z"⟩,
  Cond.instanceMethod ⟨"FlushProofsModel", "failing", "(I)I"⟩,
  Cond.selects "FlushProofsModel" ⟨"FlushProofsModel", "failing", "(I)I"⟩ ⟨"FlushProofsModel", "failing", "(I)I"⟩,
  Cond.methodLink "FlushProofsModel" 186 ⟨"FlushProofsModel", "failing", "(I)I"⟩,
  Cond.instanceMethod ⟨"FlushProofsModel", "goesOn", "(II)Z"⟩,
  Cond.selects "FlushProofsModel" ⟨"FlushProofsModel", "goesOn", "(II)Z"⟩ ⟨"FlushProofsModel", "goesOn", "(II)Z"⟩,
  Cond.methodLink "FlushProofsModel" 189 ⟨"FlushProofsModel", "goesOn", "(II)Z"⟩,
  Cond.instanceMethod ⟨"FlushProofsModel", "gather", "()V"⟩,
  Cond.selects "FlushProofsModel" ⟨"FlushProofsModel", "gather", "()V"⟩ ⟨"FlushProofsModel", "gather", "()V"⟩,
  Cond.methodLink "FlushProofsModel" 205 ⟨"FlushProofsModel", "gather", "()V"⟩,
  Cond.instanceMethod ⟨"FlushProofsModel", "failsWith", "(I)I"⟩,
  Cond.selects "FlushProofsModel" ⟨"FlushProofsModel", "failsWith", "(I)I"⟩ ⟨"FlushProofsModel", "failsWith", "(I)I"⟩,
  Cond.methodLink "FlushProofsModel" 208 ⟨"FlushProofsModel", "failsWith", "(I)I"⟩,
  Cond.instanceMethod ⟨"FlushProofsModel", "keepState", "(I)V"⟩,
  Cond.selects "FlushProofsModel" ⟨"FlushProofsModel", "keepState", "(I)V"⟩ ⟨"FlushProofsModel", "keepState", "(I)V"⟩,
  Cond.methodLink "FlushProofsModel" 211 ⟨"FlushProofsModel", "keepState", "(I)V"⟩,
  Cond.instanceMethod ⟨"FlushProofsModel", "beginState", "()V"⟩,
  Cond.selects "FlushProofsModel" ⟨"FlushProofsModel", "beginState", "()V"⟩ ⟨"FlushProofsModel", "beginState", "()V"⟩,
  Cond.methodLink "FlushProofsModel" 214 ⟨"FlushProofsModel", "beginState", "()V"⟩,
  Cond.instanceMethod ⟨"FlushProofsModel", "step", "(I)V"⟩,
  Cond.selects "FlushProofsModel" ⟨"FlushProofsModel", "step", "(I)V"⟩ ⟨"FlushProofsModel", "step", "(I)V"⟩,
  Cond.methodLink "FlushProofsModel" 217 ⟨"FlushProofsModel", "step", "(I)V"⟩,
  Cond.instanceMethod ⟨"FlushProofsModel", "ask", "(I)I"⟩,
  Cond.selects "FlushProofsModel" ⟨"FlushProofsModel", "ask", "(I)I"⟩ ⟨"FlushProofsModel", "ask", "(I)I"⟩,
  Cond.methodLink "FlushProofsModel" 220 ⟨"FlushProofsModel", "ask", "(I)I"⟩,
  Cond.instanceMethod ⟨"FlushProofsModel", "begin", "()V"⟩,
  Cond.selects "FlushProofsModel" ⟨"FlushProofsModel", "begin", "()V"⟩ ⟨"FlushProofsModel", "begin", "()V"⟩,
  Cond.methodLink "FlushProofsModel" 84 ⟨"FlushProofsModel", "begin", "()V"⟩,
  Cond.instanceMethod ⟨"FlushProofsModel", "link", "(I)V"⟩,
  Cond.selects "FlushProofsModel" ⟨"FlushProofsModel", "link", "(I)V"⟩ ⟨"FlushProofsModel", "link", "(I)V"⟩,
  Cond.methodLink "FlushProofsModel" 95 ⟨"FlushProofsModel", "link", "(I)V"⟩,
  Cond.instanceMethod ⟨"FlushProofsModel", "find", "(IIII)I"⟩,
  Cond.selects "FlushProofsModel" ⟨"FlushProofsModel", "find", "(IIII)I"⟩ ⟨"FlushProofsModel", "find", "(IIII)I"⟩,
  Cond.methodLink "FlushProofsModel" 99 ⟨"FlushProofsModel", "find", "(IIII)I"⟩,
  Cond.instanceMethod ⟨"FlushProofs$Nodes", "put", "(IIII)I"⟩,
  Cond.selects "FlushProofs$Nodes" ⟨"FlushProofs$Nodes", "put", "(IIII)I"⟩ ⟨"FlushProofs$Nodes", "put", "(IIII)I"⟩,
  Cond.methodLink "FlushProofs$Nodes" 47 ⟨"FlushProofs$Nodes", "put", "(IIII)I"⟩,
  Cond.instanceMethod ⟨"FlushProofs$Nodes", "has", "(I)Z"⟩,
  Cond.selects "FlushProofs$Nodes" ⟨"FlushProofs$Nodes", "has", "(I)Z"⟩ ⟨"FlushProofs$Nodes", "has", "(I)Z"⟩,
  Cond.methodLink "FlushProofs$Nodes" 60 ⟨"FlushProofs$Nodes", "has", "(I)Z"⟩,
  Cond.instanceMethod ⟨"FlushProofs$Nodes", "isWord", "(I)Z"⟩,
  Cond.selects "FlushProofs$Nodes" ⟨"FlushProofs$Nodes", "isWord", "(I)Z"⟩ ⟨"FlushProofs$Nodes", "isWord", "(I)Z"⟩,
  Cond.methodLink "FlushProofs$Nodes" 64 ⟨"FlushProofs$Nodes", "isWord", "(I)Z"⟩,
  Cond.instanceMethod ⟨"FlushProofs$Nodes", "makeEquality", "(II)I"⟩,
  Cond.selects "FlushProofs$Nodes" ⟨"FlushProofs$Nodes", "makeEquality", "(II)I"⟩ ⟨"FlushProofs$Nodes", "makeEquality", "(II)I"⟩,
  Cond.methodLink "FlushProofs$Nodes" 67 ⟨"FlushProofs$Nodes", "makeEquality", "(II)I"⟩,
  Cond.instanceMethod ⟨"FlushProofs$Nodes", "makeNot", "(I)I"⟩,
  Cond.selects "FlushProofs$Nodes" ⟨"FlushProofs$Nodes", "makeNot", "(I)I"⟩ ⟨"FlushProofs$Nodes", "makeNot", "(I)I"⟩,
  Cond.methodLink "FlushProofs$Nodes" 70 ⟨"FlushProofs$Nodes", "makeNot", "(I)I"⟩,
  Cond.instanceMethod ⟨"FlushProofs$Nodes", "makeChoice", "(III)I"⟩,
  Cond.selects "FlushProofs$Nodes" ⟨"FlushProofs$Nodes", "makeChoice", "(III)I"⟩ ⟨"FlushProofs$Nodes", "makeChoice", "(III)I"⟩,
  Cond.methodLink "FlushProofs$Nodes" 74 ⟨"FlushProofs$Nodes", "makeChoice", "(III)I"⟩,
  Cond.instanceMethod ⟨"FlushProofs$Nodes", "makeApplication", "(III)I"⟩,
  Cond.selects "FlushProofs$Nodes" ⟨"FlushProofs$Nodes", "makeApplication", "(III)I"⟩ ⟨"FlushProofs$Nodes", "makeApplication", "(III)I"⟩,
  Cond.methodLink "FlushProofs$Nodes" 82 ⟨"FlushProofs$Nodes", "makeApplication", "(III)I"⟩,
  Cond.instanceMethod ⟨"FlushProofs$Nodes", "makeBoth", "(II)I"⟩,
  Cond.selects "FlushProofs$Nodes" ⟨"FlushProofs$Nodes", "makeBoth", "(II)I"⟩ ⟨"FlushProofs$Nodes", "makeBoth", "(II)I"⟩,
  Cond.methodLink "FlushProofs$Nodes" 85 ⟨"FlushProofs$Nodes", "makeBoth", "(II)I"⟩,
  Cond.instanceMethod ⟨"FlushProofs$Nodes", "mark", "([ZI)V"⟩,
  Cond.selects "FlushProofs$Nodes" ⟨"FlushProofs$Nodes", "mark", "([ZI)V"⟩ ⟨"FlushProofs$Nodes", "mark", "([ZI)V"⟩,
  Cond.methodLink "FlushProofs$Nodes" 88 ⟨"FlushProofs$Nodes", "mark", "([ZI)V"⟩,
  Cond.instanceMethod ⟨"FlushProofs$Nodes", "hasFetch", "(I)Z"⟩,
  Cond.selects "FlushProofs$Nodes" ⟨"FlushProofs$Nodes", "hasFetch", "(I)Z"⟩ ⟨"FlushProofs$Nodes", "hasFetch", "(I)Z"⟩,
  Cond.methodLink "FlushProofs$Nodes" 92 ⟨"FlushProofs$Nodes", "hasFetch", "(I)Z"⟩,
  Cond.instanceMethod ⟨"FlushProofs$Nodes", "room", "()I"⟩,
  Cond.selects "FlushProofs$Nodes" ⟨"FlushProofs$Nodes", "room", "()I"⟩ ⟨"FlushProofs$Nodes", "room", "()I"⟩,
  Cond.methodLink "FlushProofs$Planes" 15 ⟨"FlushProofs$Nodes", "room", "()I"⟩,
  Cond.initialized "FlushProofs$Planes",
  Cond.instanceMethod ⟨"FlushProofs$Planes", "same", "(II)J"⟩,
  Cond.selects "FlushProofs$Planes" ⟨"FlushProofs$Planes", "same", "(II)J"⟩ ⟨"FlushProofs$Planes", "same", "(II)J"⟩,
  Cond.methodLink "FlushProofs$Planes" 43 ⟨"FlushProofs$Planes", "same", "(II)J"⟩,
  Cond.instanceMethod ⟨"FlushProofs$Planes", "choose", "(IJII)V"⟩,
  Cond.selects "FlushProofs$Planes" ⟨"FlushProofs$Planes", "choose", "(IJII)V"⟩ ⟨"FlushProofs$Planes", "choose", "(IJII)V"⟩,
  Cond.methodLink "FlushProofs$Planes" 50 ⟨"FlushProofs$Planes", "choose", "(IJII)V"⟩,
  Cond.instanceMethod ⟨"FlushProofs$Nodes", "remakeAll", "(LFlushProofs$Nodes;[I)V"⟩,
  Cond.selects "FlushProofs$Nodes" ⟨"FlushProofs$Nodes", "remakeAll", "(LFlushProofs$Nodes;[I)V"⟩ ⟨"FlushProofs$Nodes", "remakeAll", "(LFlushProofs$Nodes;[I)V"⟩,
  Cond.methodLink "FlushProofs$Prover" 104 ⟨"FlushProofs$Nodes", "remakeAll", "(LFlushProofs$Nodes;[I)V"⟩,
  Cond.methodLink "FlushProofs$Prover" 111 ⟨"FlushProofs$Nodes", "makeNot", "(I)I"⟩,
  Cond.methodLink "FlushProofs$Prover" 115 ⟨"FlushProofs$Nodes", "reset", "()V"⟩,
  Cond.initialized "FlushProofs$Question",
  Cond.instanceMethod ⟨"FlushProofs$Question", "begin", "()V"⟩,
  Cond.selects "FlushProofs$Question" ⟨"FlushProofs$Question", "begin", "()V"⟩ ⟨"FlushProofs$Question", "begin", "()V"⟩,
  Cond.methodLink "FlushProofs$Prover" 118 ⟨"FlushProofs$Question", "begin", "()V"⟩,
  Cond.methodLink "FlushProofs$Prover" 123 ⟨"FlushProofs$Nodes", "isWord", "(I)Z"⟩,
  Cond.methodLink "FlushProofs$Prover" 127 ⟨"FlushProofs$Nodes", "makeElement", "(II)I"⟩,
  Cond.instanceMethod ⟨"FlushProofs$Question", "addInvariant", "(I)V"⟩,
  Cond.selects "FlushProofs$Question" ⟨"FlushProofs$Question", "addInvariant", "(I)V"⟩ ⟨"FlushProofs$Question", "addInvariant", "(I)V"⟩,
  Cond.methodLink "FlushProofs$Prover" 133 ⟨"FlushProofs$Question", "addInvariant", "(I)V"⟩,
  Cond.initialized "FlushProofs$Prover",
  Cond.instanceMethod ⟨"FlushProofs$Prover", "takeImages", "(LFlushProofs$Core;[I[I)V"⟩,
  Cond.selects "FlushProofs$Prover" ⟨"FlushProofs$Prover", "takeImages", "(LFlushProofs$Core;[I[I)V"⟩ ⟨"FlushProofs$Prover", "takeImages", "(LFlushProofs$Core;[I[I)V"⟩,
  Cond.methodLink "FlushProofs$Prover" 139 ⟨"FlushProofs$Prover", "takeImages", "(LFlushProofs$Core;[I[I)V"⟩,
  Cond.instanceMethod ⟨"FlushProofs$Nodes", "spread", "([Z)V"⟩,
  Cond.selects "FlushProofs$Nodes" ⟨"FlushProofs$Nodes", "spread", "([Z)V"⟩ ⟨"FlushProofs$Nodes", "spread", "([Z)V"⟩,
  Cond.methodLink "FlushProofs$Prover" 148 ⟨"FlushProofs$Nodes", "spread", "([Z)V"⟩,
  Cond.initialized "FlushProofs$Outcome",
  Cond.instanceMethod ⟨"FlushProofs$Outcome", "isTooLarge", "()Z"⟩,
  Cond.selects "FlushProofs$Outcome" ⟨"FlushProofs$Outcome", "isTooLarge", "()Z"⟩ ⟨"FlushProofs$Outcome", "isTooLarge", "()Z"⟩,
  Cond.methodLink "FlushProofs$Prover" 161 ⟨"FlushProofs$Outcome", "isTooLarge", "()Z"⟩,
  Cond.instanceMethod ⟨"FlushProofs$Prover", "markNeeded", "()V"⟩,
  Cond.selects "FlushProofs$Prover" ⟨"FlushProofs$Prover", "markNeeded", "()V"⟩ ⟨"FlushProofs$Prover", "markNeeded", "()V"⟩,
  Cond.methodLink "FlushProofs$Prover" 171 ⟨"FlushProofs$Prover", "markNeeded", "()V"⟩,
  Cond.initialized "FlushProofs$Search",
  Cond.instanceMethod ⟨"FlushProofs$Search", "findLeast", "([Z)Z"⟩,
  Cond.selects "FlushProofs$Search" ⟨"FlushProofs$Search", "findLeast", "([Z)Z"⟩ ⟨"FlushProofs$Search", "findLeast", "([Z)Z"⟩,
  Cond.methodLink "FlushProofs$Prover" 174 ⟨"FlushProofs$Search", "findLeast", "([Z)Z"⟩,
  Cond.instanceMethod ⟨"FlushProofs$Search", "tell", "(LFlushProofs$Outcome;)V"⟩,
  Cond.selects "FlushProofs$Search" ⟨"FlushProofs$Search", "tell", "(LFlushProofs$Outcome;)V"⟩ ⟨"FlushProofs$Search", "tell", "(LFlushProofs$Outcome;)V"⟩,
  Cond.methodLink "FlushProofs$Prover" 178 ⟨"FlushProofs$Search", "tell", "(LFlushProofs$Outcome;)V"⟩,
  Cond.methodLink "FlushProofs$Prover" 50 ⟨"FlushProofs$Nodes", "room", "()I"⟩,
  Cond.instanceMethod ⟨"FlushProofs$Outcome", "begin", "(II)V"⟩,
  Cond.selects "FlushProofs$Outcome" ⟨"FlushProofs$Outcome", "begin", "(II)V"⟩ ⟨"FlushProofs$Outcome", "begin", "(II)V"⟩,
  Cond.methodLink "FlushProofs$Prover" 60 ⟨"FlushProofs$Outcome", "begin", "(II)V"⟩,
  Cond.instanceMethod ⟨"FlushProofs$Prover", "begin", "(LFlushProofs$Core;)V"⟩,
  Cond.selects "FlushProofs$Prover" ⟨"FlushProofs$Prover", "begin", "(LFlushProofs$Core;)V"⟩ ⟨"FlushProofs$Prover", "begin", "(LFlushProofs$Core;)V"⟩,
  Cond.methodLink "FlushProofs$Prover" 66 ⟨"FlushProofs$Prover", "begin", "(LFlushProofs$Core;)V"⟩,
  Cond.instanceMethod ⟨"FlushProofs$Prover", "step", "(LFlushProofs$Core;[II)V"⟩,
  Cond.selects "FlushProofs$Prover" ⟨"FlushProofs$Prover", "step", "(LFlushProofs$Core;[II)V"⟩ ⟨"FlushProofs$Prover", "step", "(LFlushProofs$Core;[II)V"⟩,
  Cond.methodLink "FlushProofs$Prover" 69 ⟨"FlushProofs$Prover", "step", "(LFlushProofs$Core;[II)V"⟩,
  Cond.instanceMethod ⟨"FlushProofs$Prover", "plainStep", "(LFlushProofs$Core;[I)V"⟩,
  Cond.selects "FlushProofs$Prover" ⟨"FlushProofs$Prover", "plainStep", "(LFlushProofs$Core;[I)V"⟩ ⟨"FlushProofs$Prover", "plainStep", "(LFlushProofs$Core;[I)V"⟩,
  Cond.methodLink "FlushProofs$Prover" 73 ⟨"FlushProofs$Prover", "plainStep", "(LFlushProofs$Core;[I)V"⟩,
  Cond.instanceMethod ⟨"FlushProofs$Prover", "markInvariants", "()V"⟩,
  Cond.selects "FlushProofs$Prover" ⟨"FlushProofs$Prover", "markInvariants", "()V"⟩ ⟨"FlushProofs$Prover", "markInvariants", "()V"⟩,
  Cond.methodLink "FlushProofs$Prover" 77 ⟨"FlushProofs$Prover", "markInvariants", "()V"⟩,
  Cond.methodLink "FlushProofs$Prover" 83 ⟨"FlushProofs$Nodes", "mark", "([ZI)V"⟩,
  Cond.instanceMethod ⟨"FlushProofs$Prover", "countDeep", "(LFlushProofs$Outcome;)V"⟩,
  Cond.selects "FlushProofs$Prover" ⟨"FlushProofs$Prover", "countDeep", "(LFlushProofs$Outcome;)V"⟩ ⟨"FlushProofs$Prover", "countDeep", "(LFlushProofs$Outcome;)V"⟩,
  Cond.methodLink "FlushProofs$Prover" 87 ⟨"FlushProofs$Prover", "countDeep", "(LFlushProofs$Outcome;)V"⟩,
  Cond.instanceMethod ⟨"FlushProofs$Nodes", "makeDifference", "(II)I"⟩,
  Cond.selects "FlushProofs$Nodes" ⟨"FlushProofs$Nodes", "makeDifference", "(II)I"⟩ ⟨"FlushProofs$Nodes", "makeDifference", "(II)I"⟩,
  Cond.methodLink "FlushProofs$Prover" 91 ⟨"FlushProofs$Nodes", "makeDifference", "(II)I"⟩,
  Cond.instanceMethod ⟨"FlushProofs$Question", "addClaim", "(II)V"⟩,
  Cond.selects "FlushProofs$Question" ⟨"FlushProofs$Question", "addClaim", "(II)V"⟩ ⟨"FlushProofs$Question", "addClaim", "(II)V"⟩,
  Cond.methodLink "FlushProofs$Prover" 95 ⟨"FlushProofs$Question", "addClaim", "(II)V"⟩,
  Cond.instanceMethod ⟨"FlushProofs$Prover", "putIn", "(LFlushProofs$Core;[II)V"⟩,
  Cond.selects "FlushProofs$Prover" ⟨"FlushProofs$Prover", "putIn", "(LFlushProofs$Core;[II)V"⟩ ⟨"FlushProofs$Prover", "putIn", "(LFlushProofs$Core;[II)V"⟩,
  Cond.methodLink "FlushProofs$Prover" 98 ⟨"FlushProofs$Prover", "putIn", "(LFlushProofs$Core;[II)V"⟩,
  Cond.instanceMethod ⟨"FlushProofs$Search", "collectNode", "(II)V"⟩,
  Cond.selects "FlushProofs$Search" ⟨"FlushProofs$Search", "collectNode", "(II)V"⟩ ⟨"FlushProofs$Search", "collectNode", "(II)V"⟩,
  Cond.methodLink "FlushProofs$Search" 124 ⟨"FlushProofs$Search", "collectNode", "(II)V"⟩,
  Cond.instanceMethod ⟨"FlushProofs$Search", "addTruth", "(I)V"⟩,
  Cond.selects "FlushProofs$Search" ⟨"FlushProofs$Search", "addTruth", "(I)V"⟩ ⟨"FlushProofs$Search", "addTruth", "(I)V"⟩,
  Cond.methodLink "FlushProofs$Search" 128 ⟨"FlushProofs$Search", "addTruth", "(I)V"⟩,
  Cond.instanceMethod ⟨"FlushProofs$Search", "addWord", "(I)V"⟩,
  Cond.selects "FlushProofs$Search" ⟨"FlushProofs$Search", "addWord", "(I)V"⟩ ⟨"FlushProofs$Search", "addWord", "(I)V"⟩,
  Cond.methodLink "FlushProofs$Search" 131 ⟨"FlushProofs$Search", "addWord", "(I)V"⟩,
  Cond.instanceMethod ⟨"FlushProofs$Search", "levelOfParts", "(I)I"⟩,
  Cond.selects "FlushProofs$Search" ⟨"FlushProofs$Search", "levelOfParts", "(I)I"⟩ ⟨"FlushProofs$Search", "levelOfParts", "(I)I"⟩,
  Cond.methodLink "FlushProofs$Search" 134 ⟨"FlushProofs$Search", "levelOfParts", "(I)I"⟩,
  Cond.instanceMethod ⟨"FlushProofs$Search", "levelOf", "(I)I"⟩,
  Cond.selects "FlushProofs$Search" ⟨"FlushProofs$Search", "levelOf", "(I)I"⟩ ⟨"FlushProofs$Search", "levelOf", "(I)I"⟩,
  Cond.methodLink "FlushProofs$Search" 138 ⟨"FlushProofs$Search", "levelOf", "(I)I"⟩,
  Cond.instanceMethod ⟨"FlushProofs$Planes", "setTruth", "(IJ)V"⟩,
  Cond.selects "FlushProofs$Planes" ⟨"FlushProofs$Planes", "setTruth", "(IJ)V"⟩ ⟨"FlushProofs$Planes", "setTruth", "(IJ)V"⟩,
  Cond.methodLink "FlushProofs$Search" 159 ⟨"FlushProofs$Planes", "setTruth", "(IJ)V"⟩,
  Cond.instanceMethod ⟨"FlushProofs$Planes", "reckon", "(I)V"⟩,
  Cond.selects "FlushProofs$Planes" ⟨"FlushProofs$Planes", "reckon", "(I)V"⟩ ⟨"FlushProofs$Planes", "reckon", "(I)V"⟩,
  Cond.methodLink "FlushProofs$Search" 169 ⟨"FlushProofs$Planes", "reckon", "(I)V"⟩,
  Cond.instanceMethod ⟨"FlushProofs$Planes", "truthOf", "(I)J"⟩,
  Cond.selects "FlushProofs$Planes" ⟨"FlushProofs$Planes", "truthOf", "(I)J"⟩ ⟨"FlushProofs$Planes", "truthOf", "(I)J"⟩,
  Cond.methodLink "FlushProofs$Search" 178 ⟨"FlushProofs$Planes", "truthOf", "(I)J"⟩,
  Cond.instanceMethod ⟨"FlushProofs$Search", "look", "(J)V"⟩,
  Cond.selects "FlushProofs$Search" ⟨"FlushProofs$Search", "look", "(J)V"⟩ ⟨"FlushProofs$Search", "look", "(J)V"⟩,
  Cond.methodLink "FlushProofs$Search" 181 ⟨"FlushProofs$Search", "look", "(J)V"⟩,
  Cond.instanceMethod ⟨"FlushProofs$Search", "statesOfUse", "(I)J"⟩,
  Cond.selects "FlushProofs$Search" ⟨"FlushProofs$Search", "statesOfUse", "(I)J"⟩ ⟨"FlushProofs$Search", "statesOfUse", "(I)J"⟩,
  Cond.methodLink "FlushProofs$Search" 185 ⟨"FlushProofs$Search", "statesOfUse", "(I)J"⟩,
  Cond.instanceMethod ⟨"FlushProofs$Search", "withFunctions", "(IIJ)J"⟩,
  Cond.selects "FlushProofs$Search" ⟨"FlushProofs$Search", "withFunctions", "(IIJ)J"⟩ ⟨"FlushProofs$Search", "withFunctions", "(IIJ)J"⟩,
  Cond.methodLink "FlushProofs$Search" 188 ⟨"FlushProofs$Search", "withFunctions", "(IIJ)J"⟩,
  Cond.instanceMethod ⟨"FlushProofs$Planes", "setWord", "(II)V"⟩,
  Cond.selects "FlushProofs$Planes" ⟨"FlushProofs$Planes", "setWord", "(II)V"⟩ ⟨"FlushProofs$Planes", "setWord", "(II)V"⟩,
  Cond.methodLink "FlushProofs$Search" 192 ⟨"FlushProofs$Planes", "setWord", "(II)V"⟩,
  Cond.instanceMethod ⟨"FlushProofs$Search", "sameArguments", "(II)J"⟩,
  Cond.selects "FlushProofs$Search" ⟨"FlushProofs$Search", "sameArguments", "(II)J"⟩ ⟨"FlushProofs$Search", "sameArguments", "(II)J"⟩,
  Cond.methodLink "FlushProofs$Search" 195 ⟨"FlushProofs$Search", "sameArguments", "(II)J"⟩,
  Cond.methodLink "FlushProofs$Search" 199 ⟨"FlushProofs$Planes", "same", "(II)J"⟩,
  Cond.instanceMethod ⟨"FlushProofs$Search", "lowestClaim", "(I)I"⟩,
  Cond.selects "FlushProofs$Search" ⟨"FlushProofs$Search", "lowestClaim", "(I)I"⟩ ⟨"FlushProofs$Search", "lowestClaim", "(I)I"⟩,
  Cond.methodLink "FlushProofs$Search" 214 ⟨"FlushProofs$Search", "lowestClaim", "(I)I"⟩,
  Cond.methodLink "FlushProofs$Search" 38 ⟨"FlushProofs$Nodes", "room", "()I"⟩,
  Cond.instanceMethod ⟨"FlushProofs$Search", "collect", "([Z)V"⟩,
  Cond.selects "FlushProofs$Search" ⟨"FlushProofs$Search", "collect", "([Z)V"⟩ ⟨"FlushProofs$Search", "collect", "([Z)V"⟩,
  Cond.methodLink "FlushProofs$Search" 63 ⟨"FlushProofs$Search", "collect", "([Z)V"⟩,
  Cond.instanceMethod ⟨"FlushProofs$Search", "setLevels", "([Z)V"⟩,
  Cond.selects "FlushProofs$Search" ⟨"FlushProofs$Search", "setLevels", "([Z)V"⟩ ⟨"FlushProofs$Search", "setLevels", "([Z)V"⟩,
  Cond.methodLink "FlushProofs$Search" 67 ⟨"FlushProofs$Search", "setLevels", "([Z)V"⟩,
  Cond.instanceMethod ⟨"FlushProofs$Search", "arrange", "([Z)V"⟩,
  Cond.selects "FlushProofs$Search" ⟨"FlushProofs$Search", "arrange", "([Z)V"⟩ ⟨"FlushProofs$Search", "arrange", "([Z)V"⟩,
  Cond.methodLink "FlushProofs$Search" 70 ⟨"FlushProofs$Search", "arrange", "([Z)V"⟩,
  Cond.instanceMethod ⟨"FlushProofs$Search", "setTruths", "()V"⟩,
  Cond.selects "FlushProofs$Search" ⟨"FlushProofs$Search", "setTruths", "()V"⟩ ⟨"FlushProofs$Search", "setTruths", "()V"⟩,
  Cond.methodLink "FlushProofs$Search" 73 ⟨"FlushProofs$Search", "setTruths", "()V"⟩,
  Cond.instanceMethod ⟨"FlushProofs$Search", "reckonLevel", "(I)V"⟩,
  Cond.selects "FlushProofs$Search" ⟨"FlushProofs$Search", "reckonLevel", "(I)V"⟩ ⟨"FlushProofs$Search", "reckonLevel", "(I)V"⟩,
  Cond.methodLink "FlushProofs$Search" 76 ⟨"FlushProofs$Search", "reckonLevel", "(I)V"⟩,
  Cond.instanceMethod ⟨"FlushProofs$Search", "withInvariants", "(IJ)J"⟩,
  Cond.selects "FlushProofs$Search" ⟨"FlushProofs$Search", "withInvariants", "(IJ)J"⟩ ⟨"FlushProofs$Search", "withInvariants", "(IJ)J"⟩,
  Cond.methodLink "FlushProofs$Search" 87 ⟨"FlushProofs$Search", "withInvariants", "(IJ)J"⟩,
  Cond.instanceMethod ⟨"FlushProofs$Search", "giveNumbers", "(IIJ)V"⟩,
  Cond.selects "FlushProofs$Search" ⟨"FlushProofs$Search", "giveNumbers", "(IIJ)V"⟩ ⟨"FlushProofs$Search", "giveNumbers", "(IIJ)V"⟩,
  Cond.methodLink "FlushProofs$Search" 91 ⟨"FlushProofs$Search", "giveNumbers", "(IIJ)V"⟩,
  Cond.initialized "FlushProofs$Core",
  Cond.instanceMethod ⟨"FlushProofs$Core", "addInvariant", "(I)I"⟩,
  Cond.selects "FlushProofs$Core" ⟨"FlushProofs$Core", "addInvariant", "(I)I"⟩ ⟨"FlushProofs$Core", "addInvariant", "(I)I"⟩,
  Cond.methodLink "FlushProofs" 111 ⟨"FlushProofs$Core", "addInvariant", "(I)I"⟩,
  Cond.instanceMethod ⟨"FlushProofs", "makeRoom", "(I)V"⟩,
  Cond.selects "FlushProofs" ⟨"FlushProofs", "makeRoom", "(I)V"⟩ ⟨"FlushProofs", "makeRoom", "(I)V"⟩,
  Cond.methodLink "FlushProofs" 116 ⟨"FlushProofs", "makeRoom", "(I)V"⟩,
  Cond.instanceMethod ⟨"FlushProofs$Prover", "askEquation", "(LFlushProofs$Core;ILFlushProofs$Outcome;)V"⟩,
  Cond.selects "FlushProofs$Prover" ⟨"FlushProofs$Prover", "askEquation", "(LFlushProofs$Core;ILFlushProofs$Outcome;)V"⟩ ⟨"FlushProofs$Prover", "askEquation", "(LFlushProofs$Core;ILFlushProofs$Outcome;)V"⟩,
  Cond.methodLink "FlushProofs" 119 ⟨"FlushProofs$Prover", "askEquation", "(LFlushProofs$Core;ILFlushProofs$Outcome;)V"⟩,
  Cond.instanceMethod ⟨"FlushProofs$Prover", "decide", "(LFlushProofs$Outcome;)V"⟩,
  Cond.selects "FlushProofs$Prover" ⟨"FlushProofs$Prover", "decide", "(LFlushProofs$Outcome;)V"⟩ ⟨"FlushProofs$Prover", "decide", "(LFlushProofs$Outcome;)V"⟩,
  Cond.methodLink "FlushProofs" 123 ⟨"FlushProofs$Prover", "decide", "(LFlushProofs$Outcome;)V"⟩,
  Cond.instanceMethod ⟨"FlushProofs$Prover", "askKept", "(LFlushProofs$Core;ILFlushProofs$Outcome;)V"⟩,
  Cond.selects "FlushProofs$Prover" ⟨"FlushProofs$Prover", "askKept", "(LFlushProofs$Core;ILFlushProofs$Outcome;)V"⟩ ⟨"FlushProofs$Prover", "askKept", "(LFlushProofs$Core;ILFlushProofs$Outcome;)V"⟩,
  Cond.methodLink "FlushProofs" 135 ⟨"FlushProofs$Prover", "askKept", "(LFlushProofs$Core;ILFlushProofs$Outcome;)V"⟩,
  Cond.instanceMethod ⟨"FlushProofs", "requireFailure", "()V"⟩,
  Cond.selects "FlushProofs" ⟨"FlushProofs", "requireFailure", "()V"⟩ ⟨"FlushProofs", "requireFailure", "()V"⟩,
  Cond.methodLink "FlushProofs" 138 ⟨"FlushProofs", "requireFailure", "()V"⟩,
  Cond.methodLink "FlushProofs" 187 ⟨"FlushProofs$Nodes", "has", "(I)Z"⟩,
  Cond.methodLink "FlushProofs" 195 ⟨"FlushProofs$Nodes", "isWord", "(I)Z"⟩,
  Cond.methodLink "FlushProofs" 204 ⟨"FlushProofs$Nodes", "hasFetch", "(I)Z"⟩,
  Cond.instanceMethod ⟨"FlushProofs$Prover", "room", "()I"⟩,
  Cond.selects "FlushProofs$Prover" ⟨"FlushProofs$Prover", "room", "()I"⟩ ⟨"FlushProofs$Prover", "room", "()I"⟩,
  Cond.methodLink "FlushProofs" 213 ⟨"FlushProofs$Prover", "room", "()I"⟩,
  Cond.instanceMethod ⟨"FlushProofs", "requireRoomForElement", "()V"⟩,
  Cond.selects "FlushProofs" ⟨"FlushProofs", "requireRoomForElement", "()V"⟩ ⟨"FlushProofs", "requireRoomForElement", "()V"⟩,
  Cond.methodLink "FlushProofs" 32 ⟨"FlushProofs", "requireRoomForElement", "()V"⟩,
  Cond.instanceMethod ⟨"FlushProofs$Core", "addElement", "(I)I"⟩,
  Cond.selects "FlushProofs$Core" ⟨"FlushProofs$Core", "addElement", "(I)I"⟩ ⟨"FlushProofs$Core", "addElement", "(I)I"⟩,
  Cond.methodLink "FlushProofs" 35 ⟨"FlushProofs$Core", "addElement", "(I)I"⟩,
  Cond.instanceMethod ⟨"FlushProofs", "requireNode", "(I)V"⟩,
  Cond.selects "FlushProofs" ⟨"FlushProofs", "requireNode", "(I)V"⟩ ⟨"FlushProofs", "requireNode", "(I)V"⟩,
  Cond.methodLink "FlushProofs" 39 ⟨"FlushProofs", "requireNode", "(I)V"⟩,
  Cond.instanceMethod ⟨"FlushProofs", "requireWord", "(I)V"⟩,
  Cond.selects "FlushProofs" ⟨"FlushProofs", "requireWord", "(I)V"⟩ ⟨"FlushProofs", "requireWord", "(I)V"⟩,
  Cond.methodLink "FlushProofs" 49 ⟨"FlushProofs", "requireWord", "(I)V"⟩,
  Cond.methodLink "FlushProofs" 56 ⟨"FlushProofs$Nodes", "makeApplication", "(III)I"⟩,
  Cond.methodLink "FlushProofs" 65 ⟨"FlushProofs$Nodes", "makeEquality", "(II)I"⟩,
  Cond.instanceMethod ⟨"FlushProofs", "requireTruth", "(I)V"⟩,
  Cond.selects "FlushProofs" ⟨"FlushProofs", "requireTruth", "(I)V"⟩ ⟨"FlushProofs", "requireTruth", "(I)V"⟩,
  Cond.methodLink "FlushProofs" 69 ⟨"FlushProofs", "requireTruth", "(I)V"⟩,
  Cond.methodLink "FlushProofs" 72 ⟨"FlushProofs$Nodes", "makeNot", "(I)I"⟩,
  Cond.methodLink "FlushProofs" 75 ⟨"FlushProofs$Nodes", "makeBoth", "(II)I"⟩,
  Cond.instanceMethod ⟨"FlushProofs", "requireSameSort", "(II)V"⟩,
  Cond.selects "FlushProofs" ⟨"FlushProofs", "requireSameSort", "(II)V"⟩ ⟨"FlushProofs", "requireSameSort", "(II)V"⟩,
  Cond.methodLink "FlushProofs" 78 ⟨"FlushProofs", "requireSameSort", "(II)V"⟩,
  Cond.methodLink "FlushProofs" 82 ⟨"FlushProofs$Nodes", "makeChoice", "(III)I"⟩,
  Cond.instanceMethod ⟨"FlushProofs", "requireElement", "(I)V"⟩,
  Cond.selects "FlushProofs" ⟨"FlushProofs", "requireElement", "(I)V"⟩ ⟨"FlushProofs", "requireElement", "(I)V"⟩,
  Cond.methodLink "FlushProofs" 85 ⟨"FlushProofs", "requireElement", "(I)V"⟩,
  Cond.instanceMethod ⟨"FlushProofs$Core", "tellNext", "(II)Z"⟩,
  Cond.selects "FlushProofs$Core" ⟨"FlushProofs$Core", "tellNext", "(II)Z"⟩ ⟨"FlushProofs$Core", "tellNext", "(II)Z"⟩,
  Cond.methodLink "FlushProofs" 92 ⟨"FlushProofs$Core", "tellNext", "(II)Z"⟩,
  Cond.instanceMethod ⟨"FlushProofs", "requireNoFetch", "(I)V"⟩,
  Cond.selects "FlushProofs" ⟨"FlushProofs", "requireNoFetch", "(I)V"⟩ ⟨"FlushProofs", "requireNoFetch", "(I)V"⟩,
  Cond.methodLink "FlushProofs" 96 ⟨"FlushProofs", "requireNoFetch", "(I)V"⟩,
  Cond.instanceMethod ⟨"FlushProofs$Core", "tellPlain", "(II)Z"⟩,
  Cond.selects "FlushProofs$Core" ⟨"FlushProofs$Core", "tellPlain", "(II)Z"⟩ ⟨"FlushProofs$Core", "tellPlain", "(II)Z"⟩,
  Cond.methodLink "FlushProofs" 99 ⟨"FlushProofs$Core", "tellPlain", "(II)Z"⟩,
  Cond.static ⟨"FlushProofsModel", "within", "(III)Z"⟩,
  Cond.methodLink "FlushProofsModel" 115 ⟨"FlushProofsModel", "within", "(III)Z"⟩,
  Cond.static ⟨"FlushProofsModel", "chainOf", "(IIII)I"⟩,
  Cond.methodLink "FlushProofsModel" 91 ⟨"FlushProofsModel", "chainOf", "(IIII)I"⟩,
  Cond.initialized "java/util/Arrays",
  Cond.static ⟨"java/util/Arrays", "fill", "([II)V"⟩,
  Cond.methodLink "FlushProofs$Nodes" 37 ⟨"java/util/Arrays", "fill", "([II)V"⟩,
  Cond.static ⟨"FlushProofs$Nodes", "imageOf", "([II)I"⟩,
  Cond.methodLink "FlushProofs$Nodes" 78 ⟨"FlushProofs$Nodes", "imageOf", "([II)I"⟩,
  Cond.methodLink "FlushProofs$Outcome" 19 ⟨"java/util/Arrays", "fill", "([II)V"⟩,
  Cond.methodLink "FlushProofs$Search" 153 ⟨"java/util/Arrays", "fill", "([II)V"⟩,
  Cond.initialized "java/lang/Long",
  Cond.static ⟨"java/lang/Long", "bitCount", "(J)I"⟩,
  Cond.methodLink "FlushProofs$Search" 208 ⟨"java/lang/Long", "bitCount", "(J)I"⟩,
  Cond.static ⟨"FlushProofs$Search", "statesBelow", "(I)J"⟩,
  Cond.methodLink "FlushProofs$Search" 83 ⟨"FlushProofs$Search", "statesBelow", "(I)J"⟩,
  Cond.static ⟨"FlushProofs", "landed", "(I)I"⟩,
  Cond.methodLink "FlushProofs" 62 ⟨"FlushProofs", "landed", "(I)I"⟩,
  Cond.initialized "FlushProofsLaw",
  Cond.static ⟨"FlushProofsLaw", "next", "(LFlushProofs;II[J)I"⟩,
  Cond.methodLink "FlushProofsLaw" 101 ⟨"FlushProofsLaw", "next", "(LFlushProofs;II[J)I"⟩,
  Cond.static ⟨"FlushProofsLaw", "plain", "(LFlushProofs;II[J)I"⟩,
  Cond.methodLink "FlushProofsLaw" 104 ⟨"FlushProofsLaw", "plain", "(LFlushProofs;II[J)I"⟩,
  Cond.static ⟨"FlushProofsLaw", "invariant", "(LFlushProofs;I[J)I"⟩,
  Cond.methodLink "FlushProofsLaw" 107 ⟨"FlushProofsLaw", "invariant", "(LFlushProofs;I[J)I"⟩,
  Cond.static ⟨"FlushProofsLaw", "run", "(LFlushProofs;I[J)I"⟩,
  Cond.methodLink "FlushProofsLaw" 110 ⟨"FlushProofsLaw", "run", "(LFlushProofs;I[J)I"⟩,
  Cond.static ⟨"FlushProofsLaw", "kept", "(LFlushProofs;I[J)I"⟩,
  Cond.methodLink "FlushProofsLaw" 113 ⟨"FlushProofsLaw", "kept", "(LFlushProofs;I[J)I"⟩,
  Cond.static ⟨"FlushProofsLaw", "witness", "(LFlushProofs;I[J)I"⟩,
  Cond.methodLink "FlushProofsLaw" 116 ⟨"FlushProofsLaw", "witness", "(LFlushProofs;I[J)I"⟩,
  Cond.static ⟨"FlushProofsLaw", "differs", "(LFlushProofs;[J)I"⟩,
  Cond.methodLink "FlushProofsLaw" 119 ⟨"FlushProofsLaw", "differs", "(LFlushProofs;[J)I"⟩,
  Cond.static ⟨"FlushProofsLaw", "node", "(LFlushProofs;II[J)I"⟩,
  Cond.methodLink "FlushProofsLaw" 122 ⟨"FlushProofsLaw", "node", "(LFlushProofs;II[J)I"⟩,
  Cond.static ⟨"FlushProofsLaw", "word", "(LFlushProofs;[J)I"⟩,
  Cond.methodLink "FlushProofsLaw" 71 ⟨"FlushProofsLaw", "word", "(LFlushProofs;[J)I"⟩,
  Cond.static ⟨"FlushProofsLaw", "truth", "(LFlushProofs;[J)I"⟩,
  Cond.methodLink "FlushProofsLaw" 80 ⟨"FlushProofsLaw", "truth", "(LFlushProofs;[J)I"⟩,
  Cond.static ⟨"FlushProofsLaw", "apply", "(LFlushProofs;III[J)I"⟩,
  Cond.methodLink "FlushProofsLaw" 83 ⟨"FlushProofsLaw", "apply", "(LFlushProofs;III[J)I"⟩,
  Cond.static ⟨"FlushProofsLaw", "equal", "(LFlushProofs;II[J)I"⟩,
  Cond.methodLink "FlushProofsLaw" 87 ⟨"FlushProofsLaw", "equal", "(LFlushProofs;II[J)I"⟩,
  Cond.static ⟨"FlushProofsLaw", "not", "(LFlushProofs;I[J)I"⟩,
  Cond.methodLink "FlushProofsLaw" 91 ⟨"FlushProofsLaw", "not", "(LFlushProofs;I[J)I"⟩,
  Cond.static ⟨"FlushProofsLaw", "both", "(LFlushProofs;II[J)I"⟩,
  Cond.methodLink "FlushProofsLaw" 95 ⟨"FlushProofsLaw", "both", "(LFlushProofs;II[J)I"⟩,
  Cond.static ⟨"FlushProofsLaw", "choice", "(LFlushProofs;III[J)I"⟩,
  Cond.methodLink "FlushProofsLaw" 98 ⟨"FlushProofsLaw", "choice", "(LFlushProofs;III[J)I"⟩,
  Cond.instanceMethod ⟨"FlushProofs$Nodes", "<init>", "(I)V"⟩,
  Cond.methodLink "FlushProofs$Core" 11 ⟨"FlushProofs$Nodes", "<init>", "(I)V"⟩,
  Cond.instanceMethod ⟨"FlushProofs", "<init>", "()V"⟩,
  Cond.methodLink "FlushProofsLaw" 67 ⟨"FlushProofs", "<init>", "()V"⟩,
  Cond.instanceMethod ⟨"FlushProofsModel", "<init>", "()V"⟩,
  Cond.methodLink "FlushProofsLaw" 70 ⟨"FlushProofsModel", "<init>", "()V"⟩,
  Cond.methodLink "FlushProofs$Prover" 11 ⟨"FlushProofs$Nodes", "<init>", "(I)V"⟩,
  Cond.instanceMethod ⟨"FlushProofs$Question", "<init>", "()V"⟩,
  Cond.methodLink "FlushProofs$Prover" 22 ⟨"FlushProofs$Question", "<init>", "()V"⟩,
  Cond.instanceMethod ⟨"FlushProofs$Search", "<init>", "(LFlushProofs$Nodes;LFlushProofs$Question;)V"⟩,
  Cond.methodLink "FlushProofs$Prover" 29 ⟨"FlushProofs$Search", "<init>", "(LFlushProofs$Nodes;LFlushProofs$Question;)V"⟩,
  Cond.instanceMethod ⟨"FlushProofs$Planes", "<init>", "(LFlushProofs$Nodes;)V"⟩,
  Cond.methodLink "FlushProofs$Search" 21 ⟨"FlushProofs$Planes", "<init>", "(LFlushProofs$Nodes;)V"⟩,
  Cond.instanceMethod ⟨"FlushProofs$Outcome", "<init>", "()V"⟩,
  Cond.methodLink "FlushProofs" 18 ⟨"FlushProofs$Outcome", "<init>", "()V"⟩,
  Cond.instanceMethod ⟨"FlushProofs$Prover", "<init>", "(I)V"⟩,
  Cond.methodLink "FlushProofs" 25 ⟨"FlushProofs$Prover", "<init>", "(I)V"⟩,
  Cond.instanceMethod ⟨"FlushProofs$Core", "<init>", "()V"⟩,
  Cond.methodLink "FlushProofs" 9 ⟨"FlushProofs$Core", "<init>", "()V"⟩,
  Cond.classLink "FlushProofs$Core" 9 "FlushProofs$Nodes",
  Cond.instantiable "FlushProofs$Nodes" 9,
  Cond.classLink "FlushProofsLaw" 68 "FlushProofsModel",
  Cond.instantiable "FlushProofsModel" 36,
  Cond.classLink "FlushProofsLaw" 8 "FlushProofs",
  Cond.instantiable "FlushProofs" 3,
  Cond.classLink "FlushProofs$Prover" 20 "FlushProofs$Question",
  Cond.instantiable "FlushProofs$Question" 5,
  Cond.classLink "FlushProofs$Prover" 27 "FlushProofs$Search",
  Cond.instantiable "FlushProofs$Search" 15,
  Cond.classLink "FlushProofs$Prover" 9 "FlushProofs$Nodes",
  Cond.classLink "FlushProofs$Search" 19 "FlushProofs$Planes",
  Cond.instantiable "FlushProofs$Planes" 4,
  Cond.classLink "FlushProofs" 16 "FlushProofs$Outcome",
  Cond.instantiable "FlushProofs$Outcome" 7,
  Cond.classLink "FlushProofs" 23 "FlushProofs$Prover",
  Cond.instantiable "FlushProofs$Prover" 7,
  Cond.classLink "FlushProofs" 7 "FlushProofs$Core",
  Cond.instantiable "FlushProofs$Core" 8,
  Cond.methodLink "FlushProofs$Core" 3 ⟨"java/lang/Object", "<init>", "()V"⟩,
  Cond.methodLink "FlushProofsModel" 1 ⟨"java/lang/Object", "<init>", "()V"⟩,
  Cond.methodLink "FlushProofs$Nodes" 3 ⟨"java/lang/Object", "<init>", "()V"⟩,
  Cond.methodLink "FlushProofs$Outcome" 3 ⟨"java/lang/Object", "<init>", "()V"⟩,
  Cond.methodLink "FlushProofs$Planes" 3 ⟨"java/lang/Object", "<init>", "()V"⟩,
  Cond.methodLink "FlushProofs$Prover" 3 ⟨"java/lang/Object", "<init>", "()V"⟩,
  Cond.methodLink "FlushProofs$Question" 3 ⟨"java/lang/Object", "<init>", "()V"⟩,
  Cond.methodLink "FlushProofs$Search" 3 ⟨"java/lang/Object", "<init>", "()V"⟩,
  Cond.methodLink "FlushProofs" 1 ⟨"java/lang/Object", "<init>", "()V"⟩,
  Cond.methodLink "FlushProofs$Nodes" 51 ⟨"java/lang/Math", "min", "(II)I"⟩,
  Cond.static ⟨"java/lang/Math", "min", "(II)I"⟩,
  Cond.initialized "java/lang/Math",
  Cond.methodLink "FlushProofs$Nodes" 57 ⟨"java/lang/Math", "max", "(II)I"⟩,
  Cond.static ⟨"java/lang/Math", "max", "(II)I"⟩,
  Cond.methodLink "FlushProofs$Search" 144 ⟨"java/lang/Math", "max", "(II)I"⟩,
  Cond.methodLink "FlushProofs$Search" 217 ⟨"java/lang/System", "arraycopy", "(Ljava/lang/Object;ILjava/lang/Object;II)V"⟩,
  Cond.native ⟨"java/lang/System", "arraycopy", "(Ljava/lang/Object;ILjava/lang/Object;II)V"⟩,
  Cond.static ⟨"java/lang/System", "arraycopy", "(Ljava/lang/Object;ILjava/lang/Object;II)V"⟩,
  Cond.initialized "java/lang/System",
  Cond.constantLong "java/lang/Long" 314 (6148914691236517205 : Int64),
  Cond.constantLong "java/lang/Long" 316 (3689348814741910323 : Int64),
  Cond.constantLong "java/lang/Long" 318 (1085102592571150095 : Int64),
  Cond.constant "FlushProofsModel" 90 (2147483647 : Int32),
  Cond.constantLong "FlushProofs$Planes" 31 (-1 : Int64),
  Cond.constantLong "FlushProofs$Search" 163 (-1 : Int64),
  Cond.instanceMethod ⟨"java/lang/Object", "<init>", "()V"⟩,
  Cond.arrayClass .int,
  Cond.arrayClass .boolean,
  Cond.arrayClass .long]
def qTi : List Nat := [391, 393, 395, 193, 195, 197, 199, 201, 203, 205, 207, 133, 135, 137, 139, 141, 143, 145, 147, 149, 235, 237, 239, 241, 243, 245, 247, 309, 311, 313, 315, 373, 375, 377, 379, 381, 383, 385, 278, 280, 282, 284, 286, 335, 337, 339, 341, 343, 345, 347, 349, 351, 353, 355, 357, 359, 361, 363, 1003, 1005, 1007, 1009, 1011, 1013, 1015, 1017, 1019, 1021, 1023, 1025, 1027, 1029, 1031, 1033, 1035, 1037, 1039, 1041, 1043, 1045, 1047, 1049, 1051, 1053, 1055, 1057, 1059, 1061, 1063, 1065, 1067, 1069, 1071, 1073, 173, 176, 179, 181, 183, 185, 188, 190, 976, 970, 977, 990, 992, 971, 996, 997, 991, 1000, 1001, 1002, 972, 998, 973, 974, 975, 978, 979, 980, 981, 982, 983, 984, 985, 986, 987, 988, 989, 993, 968, 994, 995, 999, 969, 967, 112, 116, 120, 124, 126, 128, 127, 129, 107, 219, 222, 224, 229, 232, 216, 306, 307, 308, 305, 366, 367, 368, 369, 370, 371, 372, 267, 270, 272, 275, 264, 332, 331, 321, 322, 323, 324, 325, 326, 327, 328, 329, 333, 334, 330, 320, 388, 389, 390, 69, 155, 156, 154, 488, 489, 487, 76, 1140, 1141, 1139, 1144, 1145, 1143, 1156, 1157, 1155, 1176, 1177, 1175, 1180, 1181, 1179, 1236, 1237, 1235, 1240, 1241, 1239, 1244, 1245, 1243, 1248, 1249, 1247, 67, 399, 400, 398, 1252, 1253, 1251, 495, 496, 494, 504, 505, 503, 565, 566, 564, 582, 583, 581, 599, 600, 598, 610, 611, 609, 626, 627, 625, 642, 643, 641, 660, 661, 659, 687, 688, 686, 912, 913, 911, 925, 926, 924, 938, 939, 937, 945, 946, 944, 407, 408, 406, 1081, 1082, 1080, 1077, 1078, 1076, 1097, 1098, 1096, 1101, 1102, 1100, 1128, 1129, 1127, 1132, 1133, 1131, 1136, 1137, 1135, 1094, 41, 1092, 1121, 45, 1119, 1201, 57, 1199, 1090, 40, 1088, 1086, 39, 1084, 1106, 42, 1104, 1113, 43, 1111, 1117, 44, 1115, 1149, 47, 1147, 1153, 48, 1151, 1169, 51, 1167, 1165, 50, 1163, 1173, 52, 1171, 1161, 49, 1159, 1197, 56, 1195, 1193, 55, 1191, 1217, 61, 1215, 1221, 62, 1219, 1225, 63, 1223, 1229, 64, 1227, 1209, 59, 1207, 1213, 60, 1211, 1233, 65, 1231, 1185, 53, 1183, 1189, 54, 1187, 1205, 58, 1203, 957, 37, 955, 961, 38, 959, 1125, 46, 1123, 163, 0, 161, 512, 513, 594, 166, 167, 165, 569, 570, 732, 591, 592, 733, 619, 620, 735, 554, 555, 731, 603, 604, 734, 757, 758, 768, 170, 171, 169, 302, 303, 301, 75, 847, 848, 846, 853, 28, 851, 725, 726, 724, 920, 713, 73, 715, 716, 714, 718, 719, 737, 738, 736, 72, 746, 13, 744, 765, 766, 764, 71, 782, 783, 781, 787, 17, 785, 74, 790, 791, 789, 905, 906, 904, 699, 705, 706, 704, 711, 10, 709, 742, 12, 740, 750, 14, 748, 754, 15, 752, 756, 762, 16, 760, 770, 771, 769, 774, 775, 773, 722, 11, 720, 799, 19, 797, 803, 20, 801, 807, 21, 805, 815, 23, 813, 819, 24, 817, 832, 833, 831, 843, 844, 842, 863, 864, 862, 872, 31, 870, 889, 33, 887, 893, 34, 891, 901, 902, 900, 897, 35, 895, 899, 882, 32, 880, 319, 795, 18, 793, 811, 22, 809, 824, 25, 822, 829, 26, 827, 840, 27, 838, 860, 29, 858, 868, 30, 866, 68, 680, 681, 679, 693, 9, 691, 701, 702, 700, 778, 779, 777, 917, 918, 916, 930, 36, 928, 511, 551, 649, 696, 697, 695, 412, 1, 410, 484, 485, 483, 509, 3, 507, 549, 4, 547, 553, 568, 587, 5, 585, 590, 602, 615, 6, 613, 618, 631, 7, 629, 635, 636, 634, 647, 8, 645, 652, 653, 651, 1109, 1108, 964, 963, 70, 159, 158, 729, 728, 708, 826, 85, 875, 874, 856, 855, 558, 557, 66, 623, 622, 639, 638, 656, 655, 684, 683, 909, 908, 922, 921, 935, 934, 942, 941, 403, 402, 492, 491, 499, 498, 562, 561, 579, 578, 596, 595, 607, 606, 104, 103, 90, 89, 952, 951, 257, 261, 260, 292, 291, 298, 297, 213, 212, 253, 252, 98, 97, 101, 102, 949, 950, 87, 88, 258, 259, 289, 290, 256, 295, 296, 210, 211, 250, 251, 95, 96, 100, 954, 106, 215, 300, 255, 263, 294, 92, 572, 573, 83, 575, 576, 821, 884, 886, 885, 86, 877, 878, 879, 966, 850, 835, 93, 152, 153, 318]
def qNN : List Cond := [
  Cond.fieldLinkNest "FlushProofs$Planes" 33 "FlushProofs$Nodes" "firsts" "[I" "FlushProofs",
  Cond.fieldLinkNest "FlushProofs$Planes" 37 "FlushProofs$Nodes" "seconds" "[I" "FlushProofs",
  Cond.fieldLinkNest "FlushProofs$Planes" 40 "FlushProofs$Nodes" "kinds" "[I" "FlushProofs",
  Cond.fieldLinkNest "FlushProofs$Planes" 47 "FlushProofs$Nodes" "thirds" "[I" "FlushProofs",
  Cond.fieldLinkNest "FlushProofs$Planes" 54 "FlushProofs$Nodes" "words" "[Z" "FlushProofs",
  Cond.fieldLinkNest "FlushProofs$Prover" 101 "FlushProofs$Core" "nodes" "LFlushProofs$Nodes;" "FlushProofs",
  Cond.fieldLinkNest "FlushProofs$Prover" 108 "FlushProofs$Core" "invariants" "[I" "FlushProofs",
  Cond.fieldLinkNest "FlushProofs$Prover" 120 "FlushProofs$Core" "elementNodes" "[I" "FlushProofs",
  Cond.fieldLinkNest "FlushProofs$Prover" 130 "FlushProofs$Core" "invariantCount" "I" "FlushProofs",
  Cond.fieldLinkNest "FlushProofs$Prover" 136 "FlushProofs$Core" "nextNodes" "[I" "FlushProofs",
  Cond.fieldLinkNest "FlushProofs$Prover" 143 "FlushProofs$Nodes" "used" "I" "FlushProofs",
  Cond.fieldLinkNest "FlushProofs$Prover" 146 "FlushProofs$Question" "invariantCount" "I" "FlushProofs",
  Cond.fieldLinkNest "FlushProofs$Prover" 147 "FlushProofs$Question" "invariants" "[I" "FlushProofs",
  Cond.fieldLinkNest "FlushProofs$Prover" 152 "FlushProofs$Nodes" "kinds" "[I" "FlushProofs",
  Cond.fieldLinkNest "FlushProofs$Prover" 155 "FlushProofs$Outcome" "deepWords" "I" "FlushProofs",
  Cond.fieldLinkNest "FlushProofs$Prover" 158 "FlushProofs$Outcome" "deepTruths" "I" "FlushProofs",
  Cond.fieldLinkNest "FlushProofs$Prover" 165 "FlushProofs$Outcome" "answer" "I" "FlushProofs",
  Cond.fieldLinkNest "FlushProofs$Prover" 168 "FlushProofs$Question" "claimCount" "I" "FlushProofs",
  Cond.fieldLinkNest "FlushProofs$Prover" 181 "FlushProofs$Question" "claims" "[I" "FlushProofs",
  Cond.fieldLinkNest "FlushProofs$Prover" 54 "FlushProofs$Core" "elementCount" "I" "FlushProofs",
  Cond.fieldLinkNest "FlushProofs$Prover" 80 "FlushProofs$Core" "plainNodes" "[I" "FlushProofs",
  Cond.fieldLinkNest "FlushProofs$Search" 100 "FlushProofs$Outcome" "differing" "I" "FlushProofs",
  Cond.fieldLinkNest "FlushProofs$Search" 105 "FlushProofs$Outcome" "fetch" "I" "FlushProofs",
  Cond.fieldLinkNest "FlushProofs$Search" 108 "FlushProofs$Outcome" "values" "[I" "FlushProofs",
  Cond.fieldLinkNest "FlushProofs$Search" 109 "FlushProofs$Nodes" "firsts" "[I" "FlushProofs",
  Cond.fieldLinkNest "FlushProofs$Search" 118 "FlushProofs$Nodes" "used" "I" "FlushProofs",
  Cond.fieldLinkNest "FlushProofs$Search" 121 "FlushProofs$Nodes" "kinds" "[I" "FlushProofs",
  Cond.fieldLinkNest "FlushProofs$Search" 141 "FlushProofs$Nodes" "seconds" "[I" "FlushProofs",
  Cond.fieldLinkNest "FlushProofs$Search" 150 "FlushProofs$Nodes" "thirds" "[I" "FlushProofs",
  Cond.fieldLinkNest "FlushProofs$Search" 172 "FlushProofs$Question" "invariantCount" "I" "FlushProofs",
  Cond.fieldLinkNest "FlushProofs$Search" 175 "FlushProofs$Question" "invariants" "[I" "FlushProofs",
  Cond.fieldLinkNest "FlushProofs$Search" 202 "FlushProofs$Question" "claimCount" "I" "FlushProofs",
  Cond.fieldLinkNest "FlushProofs$Search" 205 "FlushProofs$Question" "claims" "[I" "FlushProofs",
  Cond.fieldLinkNest "FlushProofs$Search" 95 "FlushProofs$Question" "claimElements" "[I" "FlushProofs",
  Cond.fieldLinkNest "FlushProofs" 102 "FlushProofs$Core" "invariantCount" "I" "FlushProofs",
  Cond.fieldLinkNest "FlushProofs" 127 "FlushProofs$Outcome" "answer" "I" "FlushProofs",
  Cond.fieldLinkNest "FlushProofs" 141 "FlushProofs$Outcome" "fetch" "I" "FlushProofs",
  Cond.fieldLinkNest "FlushProofs" 144 "FlushProofs$Outcome" "elementCount" "I" "FlushProofs",
  Cond.fieldLinkNest "FlushProofs" 149 "FlushProofs$Outcome" "values" "[I" "FlushProofs",
  Cond.fieldLinkNest "FlushProofs" 152 "FlushProofs$Outcome" "differing" "I" "FlushProofs",
  Cond.fieldLinkNest "FlushProofs" 155 "FlushProofs$Nodes" "kinds" "[I" "FlushProofs",
  Cond.fieldLinkNest "FlushProofs" 158 "FlushProofs$Nodes" "firsts" "[I" "FlushProofs",
  Cond.fieldLinkNest "FlushProofs" 161 "FlushProofs$Nodes" "seconds" "[I" "FlushProofs",
  Cond.fieldLinkNest "FlushProofs" 164 "FlushProofs$Nodes" "thirds" "[I" "FlushProofs",
  Cond.fieldLinkNest "FlushProofs" 169 "FlushProofs$Nodes" "used" "I" "FlushProofs",
  Cond.fieldLinkNest "FlushProofs" 172 "FlushProofs$Core" "elementCount" "I" "FlushProofs",
  Cond.fieldLinkNest "FlushProofs" 173 "FlushProofs$Core" "seenCount" "I" "FlushProofs",
  Cond.fieldLinkNest "FlushProofs" 176 "FlushProofs$Outcome" "deepWords" "I" "FlushProofs",
  Cond.fieldLinkNest "FlushProofs" 179 "FlushProofs$Outcome" "deepTruths" "I" "FlushProofs",
  Cond.fieldLinkNest "FlushProofs" 52 "FlushProofs$Core" "nodes" "LFlushProofs$Nodes;" "FlushProofs",
  Cond.fieldLinkNest "FlushProofs" 88 "FlushProofs$Core" "elementNodes" "[I" "FlushProofs",
  Cond.fieldLinkNest "FlushProofs$Search" 165 "FlushProofs" "COLUMNS" "[J" "FlushProofs"]
def qNi : List Nat := [114, 117, 109, 121, 125, 174, 184, 177, 191, 180, 131, 273, 265, 110, 230, 233, 220, 276, 268, 186, 182, 227, 225, 217, 113, 130, 108, 118, 122, 274, 266, 277, 269, 271, 192, 221, 226, 223, 218, 228, 111, 115, 119, 123, 132, 187, 189, 231, 234, 175, 178, 836]
def qSr : List (String × Nat × String) := [("FlushProofs", 184, "no room for an element"), ("FlushProofs", 191, "no such node"), ("FlushProofs", 44, "no such function"), ("FlushProofs", 198, "a word node is wanted"), ("FlushProofs", 211, "there are 300 nodes"), ("FlushProofs", 200, "a truth node is wanted"), ("FlushProofs", 202, "nodes of one sort are wanted"), ("FlushProofs", 193, "no such element"), ("FlushProofs", 207, "FETCH must not be in it"), ("FlushProofs", 108, "there are eight invariants"), ("FlushProofs", 114, "no such depth"), ("FlushProofs", 132, "no such invariant"), ("FlushProofs", 209, "the latest question did not fail"), ("FlushProofs", 147, "no such element then"), ("FlushProofs", 167, "a node has a kind and three parts")]
theorem qTT_in : qTT = qTi.filterMap (fun i => lw_tbl[i]?) := by decide +kernel
theorem qNN_in : qNN = qNi.filterMap (fun i => lw_tbl[i]?) := by decide +kernel
set_option maxRecDepth 100000 in
theorem qMs_0 : lw_tbl[105]? = some (Cond.code Y_XNodes_init.1 Y_XNodes_init.2.1 Y_XNodes_init.2.2.1 Y_XNodes_init.2.2.2) := rfl
set_option maxRecDepth 100000 in
theorem qMs_1 : lw_tbl[160]? = some (Cond.code Y_JArrays_fill.1 Y_JArrays_fill.2.1 Y_JArrays_fill.2.2.1 Y_JArrays_fill.2.2.2) := rfl
set_option maxRecDepth 100000 in
theorem qMs_2 : lw_tbl[168]? = some (Cond.code Y_XNodes_isWord.1 Y_XNodes_isWord.2.1 Y_XNodes_isWord.2.2.1 Y_XNodes_isWord.2.2.2) := rfl
set_option maxRecDepth 100000 in
theorem qMs_3 : lw_tbl[172]? = some (Cond.code Y_XNodes_hasFetch.1 Y_XNodes_hasFetch.2.1 Y_XNodes_hasFetch.2.2.1 Y_XNodes_hasFetch.2.2.2) := rfl
set_option maxRecDepth 100000 in
theorem qMs_4 : lw_tbl[164]? = some (Cond.code Y_XNodes_put.1 Y_XNodes_put.2.1 Y_XNodes_put.2.2.1 Y_XNodes_put.2.2.2) := rfl
set_option maxRecDepth 100000 in
theorem qMs_5 : lw_tbl[157]? = some (Cond.code Y_XNodes_reset.1 Y_XNodes_reset.2.1 Y_XNodes_reset.2.2.1 Y_XNodes_reset.2.2.2) := rfl
set_option maxRecDepth 100000 in
theorem qMs_6 : lw_tbl[99]? = some (Cond.code Y_XCore_init.1 Y_XCore_init.2.1 Y_XCore_init.2.2.1 Y_XCore_init.2.2.2) := rfl
set_option maxRecDepth 100000 in
theorem qMs_7 : lw_tbl[490]? = some (Cond.code Y_XNodes_makeElement.1 Y_XNodes_makeElement.2.1 Y_XNodes_makeElement.2.2.1 Y_XNodes_makeElement.2.2.2) := rfl
set_option maxRecDepth 100000 in
theorem qMs_8 : lw_tbl[486]? = some (Cond.code Y_XCore_addElement.1 Y_XCore_addElement.2.1 Y_XCore_addElement.2.2.1 Y_XCore_addElement.2.2.2) := rfl
set_option maxRecDepth 100000 in
theorem qMs_9 : lw_tbl[637]? = some (Cond.code Y_XCore_tellNext.1 Y_XCore_tellNext.2.1 Y_XCore_tellNext.2.2.1 Y_XCore_tellNext.2.2.2) := rfl
set_option maxRecDepth 100000 in
theorem qMs_10 : lw_tbl[654]? = some (Cond.code Y_XCore_tellPlain.1 Y_XCore_tellPlain.2.1 Y_XCore_tellPlain.2.2.1 Y_XCore_tellPlain.2.2.2) := rfl
set_option maxRecDepth 100000 in
theorem qMs_11 : lw_tbl[682]? = some (Cond.code Y_XCore_addInvariant.1 Y_XCore_addInvariant.2.1 Y_XCore_addInvariant.2.2.1 Y_XCore_addInvariant.2.2.2) := rfl
set_option maxRecDepth 100000 in
theorem qMs_12 : lw_tbl[304]? = some (Cond.code Y_XNodes_room.1 Y_XNodes_room.2.1 Y_XNodes_room.2.2.1 Y_XNodes_room.2.2.2) := rfl
set_option maxRecDepth 100000 in
theorem qMs_13 : lw_tbl[514]? = some (Cond.code Y_XNodes_has.1 Y_XNodes_has.2.1 Y_XNodes_has.2.2.1 Y_XNodes_has.2.2.2) := rfl
set_option maxRecDepth 100000 in
theorem qMs_14 : lw_tbl[556]? = some (Cond.code Y_XNodes_makeApplication.1 Y_XNodes_makeApplication.2.1 Y_XNodes_makeApplication.2.2.1 Y_XNodes_makeApplication.2.2.2) := rfl
set_option maxRecDepth 100000 in
theorem qMs_15 : lw_tbl[571]? = some (Cond.code Y_XNodes_makeEquality.1 Y_XNodes_makeEquality.2.1 Y_XNodes_makeEquality.2.2.1 Y_XNodes_makeEquality.2.2.2) := rfl
set_option maxRecDepth 100000 in
theorem qMs_16 : lw_tbl[593]? = some (Cond.code Y_XNodes_makeNot.1 Y_XNodes_makeNot.2.1 Y_XNodes_makeNot.2.2.1 Y_XNodes_makeNot.2.2.2) := rfl
set_option maxRecDepth 100000 in
theorem qMs_17 : lw_tbl[605]? = some (Cond.code Y_XNodes_makeBoth.1 Y_XNodes_makeBoth.2.1 Y_XNodes_makeBoth.2.2.1 Y_XNodes_makeBoth.2.2.2) := rfl
set_option maxRecDepth 100000 in
theorem qMs_18 : lw_tbl[621]? = some (Cond.code Y_XNodes_makeChoice.1 Y_XNodes_makeChoice.2.1 Y_XNodes_makeChoice.2.2.1 Y_XNodes_makeChoice.2.2.2) := rfl
set_option maxRecDepth 100000 in
theorem qMs_19 : lw_tbl[772]? = some (Cond.code Y_XNodes_makeDifference.1 Y_XNodes_makeDifference.2.1 Y_XNodes_makeDifference.2.2.1 Y_XNodes_makeDifference.2.2.2) := rfl
set_option maxRecDepth 100000 in
theorem qMs_20 : lw_tbl[730]? = some (Cond.code Y_XNodes_imageOf.1 Y_XNodes_imageOf.2.1 Y_XNodes_imageOf.2.2.1 Y_XNodes_imageOf.2.2.2) := rfl
set_option maxRecDepth 100000 in
theorem qMs_21 : lw_tbl[727]? = some (Cond.code Y_XNodes_remakeAll.1 Y_XNodes_remakeAll.2.1 Y_XNodes_remakeAll.2.2.1 Y_XNodes_remakeAll.2.2.2) := rfl
set_option maxRecDepth 100000 in
theorem qMs_22 : lw_tbl[759]? = some (Cond.code Y_XNodes_mark.1 Y_XNodes_mark.2.1 Y_XNodes_mark.2.2.1 Y_XNodes_mark.2.2.2) := rfl
set_option maxRecDepth 100000 in
theorem qMs_23 : lw_tbl[767]? = some (Cond.code Y_XNodes_spread.1 Y_XNodes_spread.2.1 Y_XNodes_spread.2.2.1 Y_XNodes_spread.2.2.2) := rfl
set_option maxRecDepth 100000 in
theorem qMs_24 : lw_tbl[214]? = some (Cond.code Y_XOutcome_init.1 Y_XOutcome_init.2.1 Y_XOutcome_init.2.2.1 Y_XOutcome_init.2.2.2) := rfl
set_option maxRecDepth 100000 in
theorem qMs_25 : lw_tbl[707]? = some (Cond.code Y_XOutcome_begin.1 Y_XOutcome_begin.2.1 Y_XOutcome_begin.2.2.1 Y_XOutcome_begin.2.2.2) := rfl
set_option maxRecDepth 100000 in
theorem qMs_26 : lw_tbl[784]? = some (Cond.code Y_XOutcome_isTooLarge.1 Y_XOutcome_isTooLarge.2.1 Y_XOutcome_isTooLarge.2.2.1 Y_XOutcome_isTooLarge.2.2.2) := rfl
set_option maxRecDepth 100000 in
theorem qMs_27 : lw_tbl[299]? = some (Cond.code Y_XPlanes_init.1 Y_XPlanes_init.2.1 Y_XPlanes_init.2.2.1 Y_XPlanes_init.2.2.2) := rfl
set_option maxRecDepth 100000 in
theorem qMs_28 : lw_tbl[865]? = some (Cond.code Y_XPlanes_truthOf.1 Y_XPlanes_truthOf.2.1 Y_XPlanes_truthOf.2.2.1 Y_XPlanes_truthOf.2.2.2) := rfl
set_option maxRecDepth 100000 in
theorem qMs_29 : lw_tbl[834]? = some (Cond.code Y_XPlanes_setTruth.1 Y_XPlanes_setTruth.2.1 Y_XPlanes_setTruth.2.2.1 Y_XPlanes_setTruth.2.2.2) := rfl
set_option maxRecDepth 100000 in
theorem qMs_30 : lw_tbl[903]? = some (Cond.code Y_XPlanes_setWord.1 Y_XPlanes_setWord.2.1 Y_XPlanes_setWord.2.2.1 Y_XPlanes_setWord.2.2.2) := rfl
set_option maxRecDepth 100000 in
theorem qMs_31 : lw_tbl[849]? = some (Cond.code Y_XPlanes_same.1 Y_XPlanes_same.2.1 Y_XPlanes_same.2.2.1 Y_XPlanes_same.2.2.2) := rfl
set_option maxRecDepth 100000 in
theorem qMs_32 : lw_tbl[854]? = some (Cond.code Y_XPlanes_choose.1 Y_XPlanes_choose.2.1 Y_XPlanes_choose.2.2.1 Y_XPlanes_choose.2.2.2) := rfl
set_option maxRecDepth 100000 in
theorem qMs_33 : lw_tbl[845]? = some (Cond.code Y_XPlanes_reckon.1 Y_XPlanes_reckon.2.1 Y_XPlanes_reckon.2.2.1 Y_XPlanes_reckon.2.2.2) := rfl
set_option maxRecDepth 100000 in
theorem qMs_34 : lw_tbl[262]? = some (Cond.code Y_XQuestion_init.1 Y_XQuestion_init.2.1 Y_XQuestion_init.2.2.1 Y_XQuestion_init.2.2.2) := rfl
set_option maxRecDepth 100000 in
theorem qMs_35 : lw_tbl[293]? = some (Cond.code Y_XSearch_init.1 Y_XSearch_init.2.1 Y_XSearch_init.2.2.1 Y_XSearch_init.2.2.2) := rfl
set_option maxRecDepth 100000 in
theorem qMs_36 : lw_tbl[254]? = some (Cond.code Y_XProver_init.1 Y_XProver_init.2.1 Y_XProver_init.2.2.1 Y_XProver_init.2.2.2) := rfl
set_option maxRecDepth 100000 in
theorem qMs_37 : lw_tbl[698]? = some (Cond.code Y_XProver_room.1 Y_XProver_room.2.1 Y_XProver_room.2.2.1 Y_XProver_room.2.2.2) := rfl
set_option maxRecDepth 100000 in
theorem qMs_38 : lw_tbl[717]? = some (Cond.code Y_XQuestion_begin.1 Y_XQuestion_begin.2.1 Y_XQuestion_begin.2.2.1 Y_XQuestion_begin.2.2.2) := rfl
set_option maxRecDepth 100000 in
theorem qMs_39 : lw_tbl[723]? = some (Cond.code Y_XProver_putIn.1 Y_XProver_putIn.2.1 Y_XProver_putIn.2.2.1 Y_XProver_putIn.2.2.2) := rfl
set_option maxRecDepth 100000 in
theorem qMs_40 : lw_tbl[739]? = some (Cond.code Y_XQuestion_addInvariant.1 Y_XQuestion_addInvariant.2.1 Y_XQuestion_addInvariant.2.2.1 Y_XQuestion_addInvariant.2.2.2) := rfl
set_option maxRecDepth 100000 in
theorem qMs_41 : lw_tbl[712]? = some (Cond.code Y_XProver_begin.1 Y_XProver_begin.2.1 Y_XProver_begin.2.2.1 Y_XProver_begin.2.2.2) := rfl
set_option maxRecDepth 100000 in
theorem qMs_42 : lw_tbl[747]? = some (Cond.code Y_XProver_takeImages.1 Y_XProver_takeImages.2.1 Y_XProver_takeImages.2.2.1 Y_XProver_takeImages.2.2.2) := rfl
set_option maxRecDepth 100000 in
theorem qMs_43 : lw_tbl[743]? = some (Cond.code Y_XProver_step.1 Y_XProver_step.2.1 Y_XProver_step.2.2.1 Y_XProver_step.2.2.2) := rfl
set_option maxRecDepth 100000 in
theorem qMs_44 : lw_tbl[751]? = some (Cond.code Y_XProver_plainStep.1 Y_XProver_plainStep.2.1 Y_XProver_plainStep.2.2.1 Y_XProver_plainStep.2.2.2) := rfl
set_option maxRecDepth 100000 in
theorem qMs_45 : lw_tbl[755]? = some (Cond.code Y_XProver_markInvariants.1 Y_XProver_markInvariants.2.1 Y_XProver_markInvariants.2.2.1 Y_XProver_markInvariants.2.2.2) := rfl
set_option maxRecDepth 100000 in
theorem qMs_46 : lw_tbl[763]? = some (Cond.code Y_XProver_countDeep.1 Y_XProver_countDeep.2.1 Y_XProver_countDeep.2.2.1 Y_XProver_countDeep.2.2.2) := rfl
set_option maxRecDepth 100000 in
theorem qMs_47 : lw_tbl[776]? = some (Cond.code Y_XQuestion_addClaim.1 Y_XQuestion_addClaim.2.1 Y_XQuestion_addClaim.2.2.1 Y_XQuestion_addClaim.2.2.2) := rfl
set_option maxRecDepth 100000 in
theorem qMs_48 : lw_tbl[703]? = some (Cond.code Y_XProver_askEquation.1 Y_XProver_askEquation.2.1 Y_XProver_askEquation.2.2.1 Y_XProver_askEquation.2.2.2) := rfl
set_option maxRecDepth 100000 in
theorem qMs_49 : lw_tbl[919]? = some (Cond.code Y_XProver_askKept.1 Y_XProver_askKept.2.1 Y_XProver_askKept.2.2.1 Y_XProver_askKept.2.2.2) := rfl
set_option maxRecDepth 100000 in
theorem qMs_50 : lw_tbl[788]? = some (Cond.code Y_XProver_markNeeded.1 Y_XProver_markNeeded.2.1 Y_XProver_markNeeded.2.2.1 Y_XProver_markNeeded.2.2.2) := rfl
set_option maxRecDepth 100000 in
theorem qMs_51 : lw_tbl[804]? = some (Cond.code Y_XSearch_addTruth.1 Y_XSearch_addTruth.2.1 Y_XSearch_addTruth.2.2.1 Y_XSearch_addTruth.2.2.2) := rfl
set_option maxRecDepth 100000 in
theorem qMs_52 : lw_tbl[808]? = some (Cond.code Y_XSearch_addWord.1 Y_XSearch_addWord.2.1 Y_XSearch_addWord.2.2.1 Y_XSearch_addWord.2.2.2) := rfl
set_option maxRecDepth 100000 in
theorem qMs_53 : lw_tbl[800]? = some (Cond.code Y_XSearch_collectNode.1 Y_XSearch_collectNode.2.1 Y_XSearch_collectNode.2.2.1 Y_XSearch_collectNode.2.2.2) := rfl
set_option maxRecDepth 100000 in
theorem qMs_54 : lw_tbl[796]? = some (Cond.code Y_XSearch_collect.1 Y_XSearch_collect.2.1 Y_XSearch_collect.2.2.1 Y_XSearch_collect.2.2.2) := rfl
set_option maxRecDepth 100000 in
theorem qMs_55 : lw_tbl[820]? = some (Cond.code Y_XSearch_levelOf.1 Y_XSearch_levelOf.2.1 Y_XSearch_levelOf.2.2.1 Y_XSearch_levelOf.2.2.2) := rfl
set_option maxRecDepth 100000 in
theorem qMs_56 : lw_tbl[816]? = some (Cond.code Y_XSearch_levelOfParts.1 Y_XSearch_levelOfParts.2.1 Y_XSearch_levelOfParts.2.2.1 Y_XSearch_levelOfParts.2.2.2) := rfl
set_option maxRecDepth 100000 in
theorem qMs_57 : lw_tbl[812]? = some (Cond.code Y_XSearch_setLevels.1 Y_XSearch_setLevels.2.1 Y_XSearch_setLevels.2.2.1 Y_XSearch_setLevels.2.2.2) := rfl
set_option maxRecDepth 100000 in
theorem qMs_58 : lw_tbl[825]? = some (Cond.code Y_XSearch_arrange.1 Y_XSearch_arrange.2.1 Y_XSearch_arrange.2.2.1 Y_XSearch_arrange.2.2.2) := rfl
set_option maxRecDepth 100000 in
theorem qMs_59 : lw_tbl[830]? = some (Cond.code Y_XSearch_setTruths.1 Y_XSearch_setTruths.2.1 Y_XSearch_setTruths.2.2.1 Y_XSearch_setTruths.2.2.2) := rfl
set_option maxRecDepth 100000 in
theorem qMs_60 : lw_tbl[841]? = some (Cond.code Y_XSearch_reckonLevel.1 Y_XSearch_reckonLevel.2.1 Y_XSearch_reckonLevel.2.2.1 Y_XSearch_reckonLevel.2.2.2) := rfl
set_option maxRecDepth 100000 in
theorem qMs_61 : lw_tbl[857]? = some (Cond.code Y_XSearch_statesBelow.1 Y_XSearch_statesBelow.2.1 Y_XSearch_statesBelow.2.2.1 Y_XSearch_statesBelow.2.2.2) := rfl
set_option maxRecDepth 100000 in
theorem qMs_62 : lw_tbl[861]? = some (Cond.code Y_XSearch_withInvariants.1 Y_XSearch_withInvariants.2.1 Y_XSearch_withInvariants.2.2.1 Y_XSearch_withInvariants.2.2.2) := rfl
set_option maxRecDepth 100000 in
theorem qMs_63 : lw_tbl[876]? = some (Cond.code Y_JLong_bitCount.1 Y_JLong_bitCount.2.1 Y_JLong_bitCount.2.2.1 Y_JLong_bitCount.2.2.2) := rfl
set_option maxRecDepth 100000 in
theorem qMs_64 : lw_tbl[883]? = some (Cond.code Y_XSearch_lowestClaim.1 Y_XSearch_lowestClaim.2.1 Y_XSearch_lowestClaim.2.2.1 Y_XSearch_lowestClaim.2.2.2) := rfl
set_option maxRecDepth 100000 in
theorem qMs_65 : lw_tbl[873]? = some (Cond.code Y_XSearch_look.1 Y_XSearch_look.2.1 Y_XSearch_look.2.2.1 Y_XSearch_look.2.2.2) := rfl
set_option maxRecDepth 100000 in
theorem qMs_66 : lw_tbl[890]? = some (Cond.code Y_XSearch_statesOfUse.1 Y_XSearch_statesOfUse.2.1 Y_XSearch_statesOfUse.2.2.1 Y_XSearch_statesOfUse.2.2.2) := rfl
set_option maxRecDepth 100000 in
theorem qMs_67 : lw_tbl[898]? = some (Cond.code Y_XSearch_sameArguments.1 Y_XSearch_sameArguments.2.1 Y_XSearch_sameArguments.2.2.1 Y_XSearch_sameArguments.2.2.2) := rfl
set_option maxRecDepth 100000 in
theorem qMs_68 : lw_tbl[894]? = some (Cond.code Y_XSearch_withFunctions.1 Y_XSearch_withFunctions.2.1 Y_XSearch_withFunctions.2.2.1 Y_XSearch_withFunctions.2.2.2) := rfl
set_option maxRecDepth 100000 in
theorem qMs_69 : lw_tbl[869]? = some (Cond.code Y_XSearch_giveNumbers.1 Y_XSearch_giveNumbers.2.1 Y_XSearch_giveNumbers.2.2.1 Y_XSearch_giveNumbers.2.2.2) := rfl
set_option maxRecDepth 100000 in
theorem qMs_70 : lw_tbl[792]? = some (Cond.code Y_XSearch_findLeast.1 Y_XSearch_findLeast.2.1 Y_XSearch_findLeast.2.2.1 Y_XSearch_findLeast.2.2.2) := rfl
set_option maxRecDepth 100000 in
theorem qMs_71 : lw_tbl[907]? = some (Cond.code Y_XSearch_tell.1 Y_XSearch_tell.2.1 Y_XSearch_tell.2.2.1 Y_XSearch_tell.2.2.2) := rfl
set_option maxRecDepth 100000 in
theorem qMs_72 : lw_tbl[780]? = some (Cond.code Y_XProver_decide.1 Y_XProver_decide.2.1 Y_XProver_decide.2.2.1 Y_XProver_decide.2.2.2) := rfl
set_option maxRecDepth 100000 in
theorem qMs_73 : lw_tbl[91]? = some (Cond.code Y_X_init.1 Y_X_init.2.1 Y_X_init.2.2.1 Y_X_init.2.2.2) := rfl
set_option maxRecDepth 100000 in
theorem qMs_74 : lw_tbl[413]? = some (Cond.code Y_X_requireRoomForElement.1 Y_X_requireRoomForElement.2.1 Y_X_requireRoomForElement.2.2.1 Y_X_requireRoomForElement.2.2.2) := rfl
set_option maxRecDepth 100000 in
theorem qMs_75 : lw_tbl[409]? = some (Cond.code Y_X_word.1 Y_X_word.2.1 Y_X_word.2.2.1 Y_X_word.2.2.2) := rfl
set_option maxRecDepth 100000 in
theorem qMs_76 : lw_tbl[497]? = some (Cond.code Y_X_truth.1 Y_X_truth.2.1 Y_X_truth.2.2.1 Y_X_truth.2.2.2) := rfl
set_option maxRecDepth 100000 in
theorem qMs_77 : lw_tbl[510]? = some (Cond.code Y_X_requireNode.1 Y_X_requireNode.2.1 Y_X_requireNode.2.2.1 Y_X_requireNode.2.2.2) := rfl
set_option maxRecDepth 100000 in
theorem qMs_78 : lw_tbl[550]? = some (Cond.code Y_X_requireWord.1 Y_X_requireWord.2.1 Y_X_requireWord.2.2.1 Y_X_requireWord.2.2.2) := rfl
set_option maxRecDepth 100000 in
theorem qMs_79 : lw_tbl[559]? = some (Cond.code Y_X_landed.1 Y_X_landed.2.1 Y_X_landed.2.2.1 Y_X_landed.2.2.2) := rfl
set_option maxRecDepth 100000 in
theorem qMs_80 : lw_tbl[506]? = some (Cond.code Y_X_apply.1 Y_X_apply.2.1 Y_X_apply.2.2.1 Y_X_apply.2.2.2) := rfl
set_option maxRecDepth 100000 in
theorem qMs_81 : lw_tbl[567]? = some (Cond.code Y_X_equal.1 Y_X_equal.2.1 Y_X_equal.2.2.1 Y_X_equal.2.2.2) := rfl
set_option maxRecDepth 100000 in
theorem qMs_82 : lw_tbl[588]? = some (Cond.code Y_X_requireTruth.1 Y_X_requireTruth.2.1 Y_X_requireTruth.2.2.1 Y_X_requireTruth.2.2.2) := rfl
set_option maxRecDepth 100000 in
theorem qMs_83 : lw_tbl[584]? = some (Cond.code Y_X_not.1 Y_X_not.2.1 Y_X_not.2.2.1 Y_X_not.2.2.2) := rfl
set_option maxRecDepth 100000 in
theorem qMs_84 : lw_tbl[601]? = some (Cond.code Y_X_both.1 Y_X_both.2.1 Y_X_both.2.2.1 Y_X_both.2.2.2) := rfl
set_option maxRecDepth 100000 in
theorem qMs_85 : lw_tbl[616]? = some (Cond.code Y_X_requireSameSort.1 Y_X_requireSameSort.2.1 Y_X_requireSameSort.2.2.1 Y_X_requireSameSort.2.2.2) := rfl
set_option maxRecDepth 100000 in
theorem qMs_86 : lw_tbl[612]? = some (Cond.code Y_X_choice.1 Y_X_choice.2.1 Y_X_choice.2.2.1 Y_X_choice.2.2.2) := rfl
set_option maxRecDepth 100000 in
theorem qMs_87 : lw_tbl[632]? = some (Cond.code Y_X_requireElement.1 Y_X_requireElement.2.1 Y_X_requireElement.2.2.1 Y_X_requireElement.2.2.2) := rfl
set_option maxRecDepth 100000 in
theorem qMs_88 : lw_tbl[628]? = some (Cond.code Y_X_next.1 Y_X_next.2.1 Y_X_next.2.2.1 Y_X_next.2.2.2) := rfl
set_option maxRecDepth 100000 in
theorem qMs_89 : lw_tbl[648]? = some (Cond.code Y_X_requireNoFetch.1 Y_X_requireNoFetch.2.1 Y_X_requireNoFetch.2.2.1 Y_X_requireNoFetch.2.2.2) := rfl
set_option maxRecDepth 100000 in
theorem qMs_90 : lw_tbl[644]? = some (Cond.code Y_X_plain.1 Y_X_plain.2.1 Y_X_plain.2.2.1 Y_X_plain.2.2.2) := rfl
set_option maxRecDepth 100000 in
theorem qMs_91 : lw_tbl[662]? = some (Cond.code Y_X_invariant.1 Y_X_invariant.2.1 Y_X_invariant.2.2.1 Y_X_invariant.2.2.2) := rfl
set_option maxRecDepth 100000 in
theorem qMs_92 : lw_tbl[694]? = some (Cond.code Y_X_makeRoom.1 Y_X_makeRoom.2.1 Y_X_makeRoom.2.2.1 Y_X_makeRoom.2.2.2) := rfl
set_option maxRecDepth 100000 in
theorem qMs_93 : lw_tbl[689]? = some (Cond.code Y_X_run.1 Y_X_run.2.1 Y_X_run.2.2.1 Y_X_run.2.2.2) := rfl
set_option maxRecDepth 100000 in
theorem qMs_94 : lw_tbl[914]? = some (Cond.code Y_X_kept.1 Y_X_kept.2.1 Y_X_kept.2.2.1 Y_X_kept.2.2.2) := rfl
set_option maxRecDepth 100000 in
theorem qMs_95 : lw_tbl[931]? = some (Cond.code Y_X_requireFailure.1 Y_X_requireFailure.2.1 Y_X_requireFailure.2.2.1 Y_X_requireFailure.2.2.2) := rfl
set_option maxRecDepth 100000 in
theorem qMs_96 : lw_tbl[927]? = some (Cond.code Y_X_witness.1 Y_X_witness.2.1 Y_X_witness.2.2.1 Y_X_witness.2.2.2) := rfl
set_option maxRecDepth 100000 in
theorem qMs_97 : lw_tbl[940]? = some (Cond.code Y_X_differs.1 Y_X_differs.2.1 Y_X_differs.2.2.1 Y_X_differs.2.2.2) := rfl
set_option maxRecDepth 100000 in
theorem qMs_98 : lw_tbl[947]? = some (Cond.code Y_X_node.1 Y_X_node.2.1 Y_X_node.2.2.1 Y_X_node.2.2.2) := rfl
set_option maxRecDepth 100000 in
theorem qMs_99 : lw_tbl[401]? = some (Cond.code Y_X_count.1 Y_X_count.2.1 Y_X_count.2.2.1 Y_X_count.2.2.2) := rfl
set_option maxRecDepth 100000 in
theorem qMs_100 : lw_tbl[965]? = some (Cond.code Y_XModel_chainOf.1 Y_XModel_chainOf.2.1 Y_XModel_chainOf.2.2.1 Y_XModel_chainOf.2.2.2) := rfl
set_option maxRecDepth 100000 in
theorem qMs_101 : lw_tbl[962]? = some (Cond.code Y_XModel_link.1 Y_XModel_link.2.1 Y_XModel_link.2.2.1 Y_XModel_link.2.2.2) := rfl
set_option maxRecDepth 100000 in
theorem qMs_102 : lw_tbl[958]? = some (Cond.code Y_XModel_begin.1 Y_XModel_begin.2.1 Y_XModel_begin.2.2.1 Y_XModel_begin.2.2.2) := rfl
set_option maxRecDepth 100000 in
theorem qMs_103 : lw_tbl[953]? = some (Cond.code Y_XModel_init.1 Y_XModel_init.2.1 Y_XModel_init.2.2.1 Y_XModel_init.2.2.2) := rfl
set_option maxRecDepth 100000 in
theorem qMs_104 : lw_tbl[1091]? = some (Cond.code Y_XModel_fail.1 Y_XModel_fail.2.1 Y_XModel_fail.2.2.1 Y_XModel_fail.2.2.2) := rfl
set_option maxRecDepth 100000 in
theorem qMs_105 : lw_tbl[1095]? = some (Cond.code Y_XModel_add.1 Y_XModel_add.2.1 Y_XModel_add.2.2.1 Y_XModel_add.2.2.2) := rfl
set_option maxRecDepth 100000 in
theorem qMs_106 : lw_tbl[1087]? = some (Cond.code Y_XModel_addElement.1 Y_XModel_addElement.2.1 Y_XModel_addElement.2.2.1 Y_XModel_addElement.2.2.2) := rfl
set_option maxRecDepth 100000 in
theorem qMs_107 : lw_tbl[1083]? = some (Cond.code Y_XModel_word.1 Y_XModel_word.2.1 Y_XModel_word.2.2.1 Y_XModel_word.2.2.2) := rfl
set_option maxRecDepth 100000 in
theorem qMs_108 : lw_tbl[1079]? = some (Cond.code Y_XModel_thrown.1 Y_XModel_thrown.2.1 Y_XModel_thrown.2.2.1 Y_XModel_thrown.2.2.2) := rfl
set_option maxRecDepth 100000 in
theorem qMs_109 : lw_tbl[1099]? = some (Cond.code Y_XModel_truth.1 Y_XModel_truth.2.1 Y_XModel_truth.2.2.1 Y_XModel_truth.2.2.2) := rfl
set_option maxRecDepth 100000 in
theorem qMs_110 : lw_tbl[1110]? = some (Cond.code Y_XModel_within.1 Y_XModel_within.2.1 Y_XModel_within.2.2.1 Y_XModel_within.2.2.2) := rfl
set_option maxRecDepth 100000 in
theorem qMs_111 : lw_tbl[1107]? = some (Cond.code Y_XModel_isNode.1 Y_XModel_isNode.2.1 Y_XModel_isNode.2.2.1 Y_XModel_isNode.2.2.2) := rfl
set_option maxRecDepth 100000 in
theorem qMs_112 : lw_tbl[1114]? = some (Cond.code Y_XModel_isWord.1 Y_XModel_isWord.2.1 Y_XModel_isWord.2.2.1 Y_XModel_isWord.2.2.2) := rfl
set_option maxRecDepth 100000 in
theorem qMs_113 : lw_tbl[1122]? = some (Cond.code Y_XModel_plainest.1 Y_XModel_plainest.2.1 Y_XModel_plainest.2.2.1 Y_XModel_plainest.2.2.2) := rfl
set_option maxRecDepth 100000 in
theorem qMs_114 : lw_tbl[1126]? = some (Cond.code Y_XModel_find.1 Y_XModel_find.2.1 Y_XModel_find.2.2.1 Y_XModel_find.2.2.2) := rfl
set_option maxRecDepth 100000 in
theorem qMs_115 : lw_tbl[1118]? = some (Cond.code Y_XModel_told.1 Y_XModel_told.2.1 Y_XModel_told.2.2.1 Y_XModel_told.2.2.2) := rfl
set_option maxRecDepth 100000 in
theorem qMs_116 : lw_tbl[1103]? = some (Cond.code Y_XModel_apply.1 Y_XModel_apply.2.1 Y_XModel_apply.2.2.1 Y_XModel_apply.2.2.2) := rfl
set_option maxRecDepth 100000 in
theorem qMs_117 : lw_tbl[1130]? = some (Cond.code Y_XModel_equal.1 Y_XModel_equal.2.1 Y_XModel_equal.2.2.1 Y_XModel_equal.2.2.2) := rfl
set_option maxRecDepth 100000 in
theorem qMs_118 : lw_tbl[1134]? = some (Cond.code Y_XModel_not.1 Y_XModel_not.2.1 Y_XModel_not.2.2.1 Y_XModel_not.2.2.2) := rfl
set_option maxRecDepth 100000 in
theorem qMs_119 : lw_tbl[1138]? = some (Cond.code Y_XModel_both.1 Y_XModel_both.2.1 Y_XModel_both.2.2.1 Y_XModel_both.2.2.2) := rfl
set_option maxRecDepth 100000 in
theorem qMs_120 : lw_tbl[1142]? = some (Cond.code Y_XModel_choice.1 Y_XModel_choice.2.1 Y_XModel_choice.2.2.1 Y_XModel_choice.2.2.2) := rfl
set_option maxRecDepth 100000 in
theorem qMs_121 : lw_tbl[1150]? = some (Cond.code Y_XModel_isElement.1 Y_XModel_isElement.2.1 Y_XModel_isElement.2.2.1 Y_XModel_isElement.2.2.2) := rfl
set_option maxRecDepth 100000 in
theorem qMs_122 : lw_tbl[1154]? = some (Cond.code Y_XModel_isOfSort.1 Y_XModel_isOfSort.2.1 Y_XModel_isOfSort.2.2.1 Y_XModel_isOfSort.2.2.2) := rfl
set_option maxRecDepth 100000 in
theorem qMs_123 : lw_tbl[1146]? = some (Cond.code Y_XModel_next.1 Y_XModel_next.2.1 Y_XModel_next.2.2.1 Y_XModel_next.2.2.2) := rfl
set_option maxRecDepth 100000 in
theorem qMs_124 : lw_tbl[1166]? = some (Cond.code Y_XModel_unmark.1 Y_XModel_unmark.2.1 Y_XModel_unmark.2.2.1 Y_XModel_unmark.2.2.2) := rfl
set_option maxRecDepth 100000 in
theorem qMs_125 : lw_tbl[1170]? = some (Cond.code Y_XModel_mark.1 Y_XModel_mark.2.1 Y_XModel_mark.2.2.1 Y_XModel_mark.2.2.2) := rfl
set_option maxRecDepth 100000 in
theorem qMs_126 : lw_tbl[1174]? = some (Cond.code Y_XModel_markParts.1 Y_XModel_markParts.2.1 Y_XModel_markParts.2.2.1 Y_XModel_markParts.2.2.2) := rfl
set_option maxRecDepth 100000 in
theorem qMs_127 : lw_tbl[1162]? = some (Cond.code Y_XModel_hasFetch.1 Y_XModel_hasFetch.2.1 Y_XModel_hasFetch.2.2.1 Y_XModel_hasFetch.2.2.2) := rfl
set_option maxRecDepth 100000 in
theorem qMs_128 : lw_tbl[1158]? = some (Cond.code Y_XModel_plain.1 Y_XModel_plain.2.1 Y_XModel_plain.2.2.1 Y_XModel_plain.2.2.2) := rfl
set_option maxRecDepth 100000 in
theorem qMs_129 : lw_tbl[1178]? = some (Cond.code Y_XModel_invariant.1 Y_XModel_invariant.2.1 Y_XModel_invariant.2.2.1 Y_XModel_invariant.2.2.2) := rfl
set_option maxRecDepth 100000 in
theorem qMs_130 : lw_tbl[1186]? = some (Cond.code Y_XModel_beginState.1 Y_XModel_beginState.2.1 Y_XModel_beginState.2.2.1 Y_XModel_beginState.2.2.2) := rfl
set_option maxRecDepth 100000 in
theorem qMs_131 : lw_tbl[1202]? = some (Cond.code Y_XModel_get.1 Y_XModel_get.2.1 Y_XModel_get.2.2.1 Y_XModel_get.2.2.2) := rfl
set_option maxRecDepth 100000 in
theorem qMs_132 : lw_tbl[1198]? = some (Cond.code Y_XModel_make.1 Y_XModel_make.2.1 Y_XModel_make.2.2.1 Y_XModel_make.2.2.2) := rfl
set_option maxRecDepth 100000 in
theorem qMs_133 : lw_tbl[1194]? = some (Cond.code Y_XModel_putIn.1 Y_XModel_putIn.2.1 Y_XModel_putIn.2.2.1 Y_XModel_putIn.2.2.2) := rfl
set_option maxRecDepth 100000 in
theorem qMs_134 : lw_tbl[1190]? = some (Cond.code Y_XModel_step.1 Y_XModel_step.2.1 Y_XModel_step.2.2.1 Y_XModel_step.2.2.2) := rfl
set_option maxRecDepth 100000 in
theorem qMs_135 : lw_tbl[1210]? = some (Cond.code Y_XModel_gather.1 Y_XModel_gather.2.1 Y_XModel_gather.2.2.1 Y_XModel_gather.2.2.2) := rfl
set_option maxRecDepth 100000 in
theorem qMs_136 : lw_tbl[1218]? = some (Cond.code Y_XModel_work.1 Y_XModel_work.2.1 Y_XModel_work.2.2.1 Y_XModel_work.2.2.2) := rfl
set_option maxRecDepth 100000 in
theorem qMs_137 : lw_tbl[1222]? = some (Cond.code Y_XModel_areFunctions.1 Y_XModel_areFunctions.2.1 Y_XModel_areFunctions.2.2.1 Y_XModel_areFunctions.2.2.2) := rfl
set_option maxRecDepth 100000 in
theorem qMs_138 : lw_tbl[1226]? = some (Cond.code Y_XModel_failing.1 Y_XModel_failing.2.1 Y_XModel_failing.2.2.1 Y_XModel_failing.2.2.2) := rfl
set_option maxRecDepth 100000 in
theorem qMs_139 : lw_tbl[1230]? = some (Cond.code Y_XModel_goesOn.1 Y_XModel_goesOn.2.1 Y_XModel_goesOn.2.2.1 Y_XModel_goesOn.2.2.2) := rfl
set_option maxRecDepth 100000 in
theorem qMs_140 : lw_tbl[1214]? = some (Cond.code Y_XModel_failsWith.1 Y_XModel_failsWith.2.1 Y_XModel_failsWith.2.2.1 Y_XModel_failsWith.2.2.2) := rfl
set_option maxRecDepth 100000 in
theorem qMs_141 : lw_tbl[1234]? = some (Cond.code Y_XModel_keepState.1 Y_XModel_keepState.2.1 Y_XModel_keepState.2.2.1 Y_XModel_keepState.2.2.2) := rfl
set_option maxRecDepth 100000 in
theorem qMs_142 : lw_tbl[1206]? = some (Cond.code Y_XModel_ask.1 Y_XModel_ask.2.1 Y_XModel_ask.2.2.1 Y_XModel_ask.2.2.2) := rfl
set_option maxRecDepth 100000 in
theorem qMs_143 : lw_tbl[1182]? = some (Cond.code Y_XModel_run.1 Y_XModel_run.2.1 Y_XModel_run.2.2.1 Y_XModel_run.2.2.2) := rfl
set_option maxRecDepth 100000 in
theorem qMs_144 : lw_tbl[1238]? = some (Cond.code Y_XModel_kept.1 Y_XModel_kept.2.1 Y_XModel_kept.2.2.1 Y_XModel_kept.2.2.2) := rfl
set_option maxRecDepth 100000 in
theorem qMs_145 : lw_tbl[1242]? = some (Cond.code Y_XModel_witness.1 Y_XModel_witness.2.1 Y_XModel_witness.2.2.1 Y_XModel_witness.2.2.2) := rfl
set_option maxRecDepth 100000 in
theorem qMs_146 : lw_tbl[1246]? = some (Cond.code Y_XModel_differs.1 Y_XModel_differs.2.1 Y_XModel_differs.2.2.1 Y_XModel_differs.2.2.2) := rfl
set_option maxRecDepth 100000 in
theorem qMs_147 : lw_tbl[1250]? = some (Cond.code Y_XModel_node.1 Y_XModel_node.2.1 Y_XModel_node.2.2.1 Y_XModel_node.2.2.2) := rfl
set_option maxRecDepth 100000 in
theorem qMs_148 : lw_tbl[1254]? = some (Cond.code Y_XModel_count.1 Y_XModel_count.2.1 Y_XModel_count.2.2.1 Y_XModel_count.2.2.2) := rfl
set_option maxRecDepth 100000 in
theorem qMs_149 : lw_tbl[94]? = some (Cond.code ((objectInit, (⟨#[0xb1]⟩ : ByteArray), 1, none) : qY).1 ((objectInit, (⟨#[0xb1]⟩ : ByteArray), 1, none) : qY).2.1 ((objectInit, (⟨#[0xb1]⟩ : ByteArray), 1, none) : qY).2.2.1 ((objectInit, (⟨#[0xb1]⟩ : ByteArray), 1, none) : qY).2.2.2) := rfl
set_option maxRecDepth 100000 in
theorem qMs_150 : lw_tbl[577]? = some (Cond.code ((Lib.Math.max.name, Lib.Math.max.code, 2, (some .int)) : qY).1 ((Lib.Math.max.name, Lib.Math.max.code, 2, (some .int)) : qY).2.1 ((Lib.Math.max.name, Lib.Math.max.code, 2, (some .int)) : qY).2.2.1 ((Lib.Math.max.name, Lib.Math.max.code, 2, (some .int)) : qY).2.2.2) := rfl
set_option maxRecDepth 100000 in
theorem qMs_151 : lw_tbl[574]? = some (Cond.code ((Lib.Math.min.name, Lib.Math.min.code, 2, (some .int)) : qY).1 ((Lib.Math.min.name, Lib.Math.min.code, 2, (some .int)) : qY).2.1 ((Lib.Math.min.name, Lib.Math.min.code, 2, (some .int)) : qY).2.2.1 ((Lib.Math.min.name, Lib.Math.min.code, 2, (some .int)) : qY).2.2.2) := rfl
theorem hd_XLaw_word : qHd Y_XLaw_word = [(0, 8, 11, 13)] := by decide +kernel
set_option maxRecDepth 100000 in
theorem mx_XLaw_word : lw_tbl[404]? = some (Cond.codeWith Y_XLaw_word.1 Y_XLaw_word.2.1 Y_XLaw_word.2.2.1 Y_XLaw_word.2.2.2 [(0, 8, 11, 13)]) := rfl
theorem mw_XLaw_word : Cond.codeWith Y_XLaw_word.1 Y_XLaw_word.2.1 Y_XLaw_word.2.2.1 Y_XLaw_word.2.2.2 (qHd Y_XLaw_word) ∈ lw_tbl := by rw [hd_XLaw_word]; exact List.mem_of_getElem? mx_XLaw_word
theorem hd_XLaw_truth : qHd Y_XLaw_truth = [(0, 8, 11, 13)] := by decide +kernel
set_option maxRecDepth 100000 in
theorem mx_XLaw_truth : lw_tbl[493]? = some (Cond.codeWith Y_XLaw_truth.1 Y_XLaw_truth.2.1 Y_XLaw_truth.2.2.1 Y_XLaw_truth.2.2.2 [(0, 8, 11, 13)]) := rfl
theorem mw_XLaw_truth : Cond.codeWith Y_XLaw_truth.1 Y_XLaw_truth.2.1 Y_XLaw_truth.2.2.1 Y_XLaw_truth.2.2.2 (qHd Y_XLaw_truth) ∈ lw_tbl := by rw [hd_XLaw_truth]; exact List.mem_of_getElem? mx_XLaw_truth
theorem hd_XLaw_apply : qHd Y_XLaw_apply = [(0, 12, 15, 22), (0, 12, 19, 24), (0, 12, 23, 13)] := by decide +kernel
set_option maxRecDepth 100000 in
theorem mx_XLaw_apply : lw_tbl[500]? = some (Cond.codeWith Y_XLaw_apply.1 Y_XLaw_apply.2.1 Y_XLaw_apply.2.2.1 Y_XLaw_apply.2.2.2 [(0, 12, 15, 22), (0, 12, 19, 24), (0, 12, 23, 13)]) := rfl
theorem mw_XLaw_apply : Cond.codeWith Y_XLaw_apply.1 Y_XLaw_apply.2.1 Y_XLaw_apply.2.2.1 Y_XLaw_apply.2.2.2 (qHd Y_XLaw_apply) ∈ lw_tbl := by rw [hd_XLaw_apply]; exact List.mem_of_getElem? mx_XLaw_apply
theorem hd_XLaw_equal : qHd Y_XLaw_equal = [(0, 10, 13, 22), (0, 10, 17, 24), (0, 10, 21, 13)] := by decide +kernel
set_option maxRecDepth 100000 in
theorem mx_XLaw_equal : lw_tbl[563]? = some (Cond.codeWith Y_XLaw_equal.1 Y_XLaw_equal.2.1 Y_XLaw_equal.2.2.1 Y_XLaw_equal.2.2.2 [(0, 10, 13, 22), (0, 10, 17, 24), (0, 10, 21, 13)]) := rfl
theorem mw_XLaw_equal : Cond.codeWith Y_XLaw_equal.1 Y_XLaw_equal.2.1 Y_XLaw_equal.2.2.1 Y_XLaw_equal.2.2.2 (qHd Y_XLaw_equal) ∈ lw_tbl := by rw [hd_XLaw_equal]; exact List.mem_of_getElem? mx_XLaw_equal
theorem hd_XLaw_not : qHd Y_XLaw_not = [(0, 9, 12, 22), (0, 9, 15, 24), (0, 9, 18, 13)] := by decide +kernel
set_option maxRecDepth 100000 in
theorem mx_XLaw_not : lw_tbl[580]? = some (Cond.codeWith Y_XLaw_not.1 Y_XLaw_not.2.1 Y_XLaw_not.2.2.1 Y_XLaw_not.2.2.2 [(0, 9, 12, 22), (0, 9, 15, 24), (0, 9, 18, 13)]) := rfl
theorem mw_XLaw_not : Cond.codeWith Y_XLaw_not.1 Y_XLaw_not.2.1 Y_XLaw_not.2.2.1 Y_XLaw_not.2.2.2 (qHd Y_XLaw_not) ∈ lw_tbl := by rw [hd_XLaw_not]; exact List.mem_of_getElem? mx_XLaw_not
theorem hd_XLaw_both : qHd Y_XLaw_both = [(0, 10, 13, 22), (0, 10, 17, 24), (0, 10, 21, 13)] := by decide +kernel
set_option maxRecDepth 100000 in
theorem mx_XLaw_both : lw_tbl[597]? = some (Cond.codeWith Y_XLaw_both.1 Y_XLaw_both.2.1 Y_XLaw_both.2.2.1 Y_XLaw_both.2.2.2 [(0, 10, 13, 22), (0, 10, 17, 24), (0, 10, 21, 13)]) := rfl
theorem mw_XLaw_both : Cond.codeWith Y_XLaw_both.1 Y_XLaw_both.2.1 Y_XLaw_both.2.2.1 Y_XLaw_both.2.2.2 (qHd Y_XLaw_both) ∈ lw_tbl := by rw [hd_XLaw_both]; exact List.mem_of_getElem? mx_XLaw_both
theorem hd_XLaw_choice : qHd Y_XLaw_choice = [(0, 12, 15, 22), (0, 12, 19, 24), (0, 12, 23, 13)] := by decide +kernel
set_option maxRecDepth 100000 in
theorem mx_XLaw_choice : lw_tbl[608]? = some (Cond.codeWith Y_XLaw_choice.1 Y_XLaw_choice.2.1 Y_XLaw_choice.2.2.1 Y_XLaw_choice.2.2.2 [(0, 12, 15, 22), (0, 12, 19, 24), (0, 12, 23, 13)]) := rfl
theorem mw_XLaw_choice : Cond.codeWith Y_XLaw_choice.1 Y_XLaw_choice.2.1 Y_XLaw_choice.2.2.1 Y_XLaw_choice.2.2.2 (qHd Y_XLaw_choice) ∈ lw_tbl := by rw [hd_XLaw_choice]; exact List.mem_of_getElem? mx_XLaw_choice
theorem hd_XLaw_next : qHd Y_XLaw_next = [(0, 17, 20, 22), (0, 17, 24, 24)] := by decide +kernel
set_option maxRecDepth 100000 in
theorem mx_XLaw_next : lw_tbl[624]? = some (Cond.codeWith Y_XLaw_next.1 Y_XLaw_next.2.1 Y_XLaw_next.2.2.1 Y_XLaw_next.2.2.2 [(0, 17, 20, 22), (0, 17, 24, 24)]) := rfl
theorem mw_XLaw_next : Cond.codeWith Y_XLaw_next.1 Y_XLaw_next.2.1 Y_XLaw_next.2.2.1 Y_XLaw_next.2.2.2 (qHd Y_XLaw_next) ∈ lw_tbl := by rw [hd_XLaw_next]; exact List.mem_of_getElem? mx_XLaw_next
theorem hd_XLaw_plain : qHd Y_XLaw_plain = [(0, 17, 20, 22), (0, 17, 24, 24)] := by decide +kernel
set_option maxRecDepth 100000 in
theorem mx_XLaw_plain : lw_tbl[640]? = some (Cond.codeWith Y_XLaw_plain.1 Y_XLaw_plain.2.1 Y_XLaw_plain.2.2.1 Y_XLaw_plain.2.2.2 [(0, 17, 20, 22), (0, 17, 24, 24)]) := rfl
theorem mw_XLaw_plain : Cond.codeWith Y_XLaw_plain.1 Y_XLaw_plain.2.1 Y_XLaw_plain.2.2.1 Y_XLaw_plain.2.2.2 (qHd Y_XLaw_plain) ∈ lw_tbl := by rw [hd_XLaw_plain]; exact List.mem_of_getElem? mx_XLaw_plain
theorem hd_XLaw_invariant : qHd Y_XLaw_invariant = [(0, 9, 12, 22), (0, 9, 15, 24), (0, 9, 18, 50)] := by decide +kernel
set_option maxRecDepth 100000 in
theorem mx_XLaw_invariant : lw_tbl[657]? = some (Cond.codeWith Y_XLaw_invariant.1 Y_XLaw_invariant.2.1 Y_XLaw_invariant.2.2.1 Y_XLaw_invariant.2.2.2 [(0, 9, 12, 22), (0, 9, 15, 24), (0, 9, 18, 50)]) := rfl
theorem mw_XLaw_invariant : Cond.codeWith Y_XLaw_invariant.1 Y_XLaw_invariant.2.1 Y_XLaw_invariant.2.2.1 Y_XLaw_invariant.2.2.2 (qHd Y_XLaw_invariant) ∈ lw_tbl := by rw [hd_XLaw_invariant]; exact List.mem_of_getElem? mx_XLaw_invariant
theorem hd_XLaw_run : qHd Y_XLaw_run = [(0, 9, 12, 24)] := by decide +kernel
set_option maxRecDepth 100000 in
theorem mx_XLaw_run : lw_tbl[685]? = some (Cond.codeWith Y_XLaw_run.1 Y_XLaw_run.2.1 Y_XLaw_run.2.2.1 Y_XLaw_run.2.2.2 [(0, 9, 12, 24)]) := rfl
theorem mw_XLaw_run : Cond.codeWith Y_XLaw_run.1 Y_XLaw_run.2.1 Y_XLaw_run.2.2.1 Y_XLaw_run.2.2.2 (qHd Y_XLaw_run) ∈ lw_tbl := by rw [hd_XLaw_run]; exact List.mem_of_getElem? mx_XLaw_run
theorem hd_XLaw_kept : qHd Y_XLaw_kept = [(0, 9, 12, 22)] := by decide +kernel
set_option maxRecDepth 100000 in
theorem mx_XLaw_kept : lw_tbl[910]? = some (Cond.codeWith Y_XLaw_kept.1 Y_XLaw_kept.2.1 Y_XLaw_kept.2.2.1 Y_XLaw_kept.2.2.2 [(0, 9, 12, 22)]) := rfl
theorem mw_XLaw_kept : Cond.codeWith Y_XLaw_kept.1 Y_XLaw_kept.2.1 Y_XLaw_kept.2.2.1 Y_XLaw_kept.2.2.2 (qHd Y_XLaw_kept) ∈ lw_tbl := by rw [hd_XLaw_kept]; exact List.mem_of_getElem? mx_XLaw_kept
theorem hd_XLaw_witness : qHd Y_XLaw_witness = [(0, 9, 12, 50), (0, 9, 15, 22)] := by decide +kernel
set_option maxRecDepth 100000 in
theorem mx_XLaw_witness : lw_tbl[923]? = some (Cond.codeWith Y_XLaw_witness.1 Y_XLaw_witness.2.1 Y_XLaw_witness.2.2.1 Y_XLaw_witness.2.2.2 [(0, 9, 12, 50), (0, 9, 15, 22)]) := rfl
theorem mw_XLaw_witness : Cond.codeWith Y_XLaw_witness.1 Y_XLaw_witness.2.1 Y_XLaw_witness.2.2.1 Y_XLaw_witness.2.2.2 (qHd Y_XLaw_witness) ∈ lw_tbl := by rw [hd_XLaw_witness]; exact List.mem_of_getElem? mx_XLaw_witness
theorem hd_XLaw_differs : qHd Y_XLaw_differs = [(0, 8, 11, 50)] := by decide +kernel
set_option maxRecDepth 100000 in
theorem mx_XLaw_differs : lw_tbl[936]? = some (Cond.codeWith Y_XLaw_differs.1 Y_XLaw_differs.2.1 Y_XLaw_differs.2.2.1 Y_XLaw_differs.2.2.2 [(0, 8, 11, 50)]) := rfl
theorem mw_XLaw_differs : Cond.codeWith Y_XLaw_differs.1 Y_XLaw_differs.2.1 Y_XLaw_differs.2.2.1 Y_XLaw_differs.2.2.2 (qHd Y_XLaw_differs) ∈ lw_tbl := by rw [hd_XLaw_differs]; exact List.mem_of_getElem? mx_XLaw_differs
theorem hd_XLaw_node : qHd Y_XLaw_node = [(0, 10, 13, 22)] := by decide +kernel
set_option maxRecDepth 100000 in
theorem mx_XLaw_node : lw_tbl[943]? = some (Cond.codeWith Y_XLaw_node.1 Y_XLaw_node.2.1 Y_XLaw_node.2.2.1 Y_XLaw_node.2.2.2 [(0, 10, 13, 22)]) := rfl
theorem mw_XLaw_node : Cond.codeWith Y_XLaw_node.1 Y_XLaw_node.2.1 Y_XLaw_node.2.2.1 Y_XLaw_node.2.2.2 (qHd Y_XLaw_node) ∈ lw_tbl := by rw [hd_XLaw_node]; exact List.mem_of_getElem? mx_XLaw_node
set_option maxRecDepth 100000 in
theorem qMs_in : ∀ Y ∈ qMs, Cond.code Y.1 Y.2.1 Y.2.2.1 Y.2.2.2 ∈ lw_tbl := List.forall_mem_cons.mpr ⟨List.mem_of_getElem? qMs_0, List.forall_mem_cons.mpr ⟨List.mem_of_getElem? qMs_1, List.forall_mem_cons.mpr ⟨List.mem_of_getElem? qMs_2, List.forall_mem_cons.mpr ⟨List.mem_of_getElem? qMs_3, List.forall_mem_cons.mpr ⟨List.mem_of_getElem? qMs_4, List.forall_mem_cons.mpr ⟨List.mem_of_getElem? qMs_5, List.forall_mem_cons.mpr ⟨List.mem_of_getElem? qMs_6, List.forall_mem_cons.mpr ⟨List.mem_of_getElem? qMs_7, List.forall_mem_cons.mpr ⟨List.mem_of_getElem? qMs_8, List.forall_mem_cons.mpr ⟨List.mem_of_getElem? qMs_9, List.forall_mem_cons.mpr ⟨List.mem_of_getElem? qMs_10, List.forall_mem_cons.mpr ⟨List.mem_of_getElem? qMs_11, List.forall_mem_cons.mpr ⟨List.mem_of_getElem? qMs_12, List.forall_mem_cons.mpr ⟨List.mem_of_getElem? qMs_13, List.forall_mem_cons.mpr ⟨List.mem_of_getElem? qMs_14, List.forall_mem_cons.mpr ⟨List.mem_of_getElem? qMs_15, List.forall_mem_cons.mpr ⟨List.mem_of_getElem? qMs_16, List.forall_mem_cons.mpr ⟨List.mem_of_getElem? qMs_17, List.forall_mem_cons.mpr ⟨List.mem_of_getElem? qMs_18, List.forall_mem_cons.mpr ⟨List.mem_of_getElem? qMs_19, List.forall_mem_cons.mpr ⟨List.mem_of_getElem? qMs_20, List.forall_mem_cons.mpr ⟨List.mem_of_getElem? qMs_21, List.forall_mem_cons.mpr ⟨List.mem_of_getElem? qMs_22, List.forall_mem_cons.mpr ⟨List.mem_of_getElem? qMs_23, List.forall_mem_cons.mpr ⟨List.mem_of_getElem? qMs_24, List.forall_mem_cons.mpr ⟨List.mem_of_getElem? qMs_25, List.forall_mem_cons.mpr ⟨List.mem_of_getElem? qMs_26, List.forall_mem_cons.mpr ⟨List.mem_of_getElem? qMs_27, List.forall_mem_cons.mpr ⟨List.mem_of_getElem? qMs_28, List.forall_mem_cons.mpr ⟨List.mem_of_getElem? qMs_29, List.forall_mem_cons.mpr ⟨List.mem_of_getElem? qMs_30, List.forall_mem_cons.mpr ⟨List.mem_of_getElem? qMs_31, List.forall_mem_cons.mpr ⟨List.mem_of_getElem? qMs_32, List.forall_mem_cons.mpr ⟨List.mem_of_getElem? qMs_33, List.forall_mem_cons.mpr ⟨List.mem_of_getElem? qMs_34, List.forall_mem_cons.mpr ⟨List.mem_of_getElem? qMs_35, List.forall_mem_cons.mpr ⟨List.mem_of_getElem? qMs_36, List.forall_mem_cons.mpr ⟨List.mem_of_getElem? qMs_37, List.forall_mem_cons.mpr ⟨List.mem_of_getElem? qMs_38, List.forall_mem_cons.mpr ⟨List.mem_of_getElem? qMs_39, List.forall_mem_cons.mpr ⟨List.mem_of_getElem? qMs_40, List.forall_mem_cons.mpr ⟨List.mem_of_getElem? qMs_41, List.forall_mem_cons.mpr ⟨List.mem_of_getElem? qMs_42, List.forall_mem_cons.mpr ⟨List.mem_of_getElem? qMs_43, List.forall_mem_cons.mpr ⟨List.mem_of_getElem? qMs_44, List.forall_mem_cons.mpr ⟨List.mem_of_getElem? qMs_45, List.forall_mem_cons.mpr ⟨List.mem_of_getElem? qMs_46, List.forall_mem_cons.mpr ⟨List.mem_of_getElem? qMs_47, List.forall_mem_cons.mpr ⟨List.mem_of_getElem? qMs_48, List.forall_mem_cons.mpr ⟨List.mem_of_getElem? qMs_49, List.forall_mem_cons.mpr ⟨List.mem_of_getElem? qMs_50, List.forall_mem_cons.mpr ⟨List.mem_of_getElem? qMs_51, List.forall_mem_cons.mpr ⟨List.mem_of_getElem? qMs_52, List.forall_mem_cons.mpr ⟨List.mem_of_getElem? qMs_53, List.forall_mem_cons.mpr ⟨List.mem_of_getElem? qMs_54, List.forall_mem_cons.mpr ⟨List.mem_of_getElem? qMs_55, List.forall_mem_cons.mpr ⟨List.mem_of_getElem? qMs_56, List.forall_mem_cons.mpr ⟨List.mem_of_getElem? qMs_57, List.forall_mem_cons.mpr ⟨List.mem_of_getElem? qMs_58, List.forall_mem_cons.mpr ⟨List.mem_of_getElem? qMs_59, List.forall_mem_cons.mpr ⟨List.mem_of_getElem? qMs_60, List.forall_mem_cons.mpr ⟨List.mem_of_getElem? qMs_61, List.forall_mem_cons.mpr ⟨List.mem_of_getElem? qMs_62, List.forall_mem_cons.mpr ⟨List.mem_of_getElem? qMs_63, List.forall_mem_cons.mpr ⟨List.mem_of_getElem? qMs_64, List.forall_mem_cons.mpr ⟨List.mem_of_getElem? qMs_65, List.forall_mem_cons.mpr ⟨List.mem_of_getElem? qMs_66, List.forall_mem_cons.mpr ⟨List.mem_of_getElem? qMs_67, List.forall_mem_cons.mpr ⟨List.mem_of_getElem? qMs_68, List.forall_mem_cons.mpr ⟨List.mem_of_getElem? qMs_69, List.forall_mem_cons.mpr ⟨List.mem_of_getElem? qMs_70, List.forall_mem_cons.mpr ⟨List.mem_of_getElem? qMs_71, List.forall_mem_cons.mpr ⟨List.mem_of_getElem? qMs_72, List.forall_mem_cons.mpr ⟨List.mem_of_getElem? qMs_73, List.forall_mem_cons.mpr ⟨List.mem_of_getElem? qMs_74, List.forall_mem_cons.mpr ⟨List.mem_of_getElem? qMs_75, List.forall_mem_cons.mpr ⟨List.mem_of_getElem? qMs_76, List.forall_mem_cons.mpr ⟨List.mem_of_getElem? qMs_77, List.forall_mem_cons.mpr ⟨List.mem_of_getElem? qMs_78, List.forall_mem_cons.mpr ⟨List.mem_of_getElem? qMs_79, List.forall_mem_cons.mpr ⟨List.mem_of_getElem? qMs_80, List.forall_mem_cons.mpr ⟨List.mem_of_getElem? qMs_81, List.forall_mem_cons.mpr ⟨List.mem_of_getElem? qMs_82, List.forall_mem_cons.mpr ⟨List.mem_of_getElem? qMs_83, List.forall_mem_cons.mpr ⟨List.mem_of_getElem? qMs_84, List.forall_mem_cons.mpr ⟨List.mem_of_getElem? qMs_85, List.forall_mem_cons.mpr ⟨List.mem_of_getElem? qMs_86, List.forall_mem_cons.mpr ⟨List.mem_of_getElem? qMs_87, List.forall_mem_cons.mpr ⟨List.mem_of_getElem? qMs_88, List.forall_mem_cons.mpr ⟨List.mem_of_getElem? qMs_89, List.forall_mem_cons.mpr ⟨List.mem_of_getElem? qMs_90, List.forall_mem_cons.mpr ⟨List.mem_of_getElem? qMs_91, List.forall_mem_cons.mpr ⟨List.mem_of_getElem? qMs_92, List.forall_mem_cons.mpr ⟨List.mem_of_getElem? qMs_93, List.forall_mem_cons.mpr ⟨List.mem_of_getElem? qMs_94, List.forall_mem_cons.mpr ⟨List.mem_of_getElem? qMs_95, List.forall_mem_cons.mpr ⟨List.mem_of_getElem? qMs_96, List.forall_mem_cons.mpr ⟨List.mem_of_getElem? qMs_97, List.forall_mem_cons.mpr ⟨List.mem_of_getElem? qMs_98, List.forall_mem_cons.mpr ⟨List.mem_of_getElem? qMs_99, List.forall_mem_cons.mpr ⟨List.mem_of_getElem? qMs_100, List.forall_mem_cons.mpr ⟨List.mem_of_getElem? qMs_101, List.forall_mem_cons.mpr ⟨List.mem_of_getElem? qMs_102, List.forall_mem_cons.mpr ⟨List.mem_of_getElem? qMs_103, List.forall_mem_cons.mpr ⟨List.mem_of_getElem? qMs_104, List.forall_mem_cons.mpr ⟨List.mem_of_getElem? qMs_105, List.forall_mem_cons.mpr ⟨List.mem_of_getElem? qMs_106, List.forall_mem_cons.mpr ⟨List.mem_of_getElem? qMs_107, List.forall_mem_cons.mpr ⟨List.mem_of_getElem? qMs_108, List.forall_mem_cons.mpr ⟨List.mem_of_getElem? qMs_109, List.forall_mem_cons.mpr ⟨List.mem_of_getElem? qMs_110, List.forall_mem_cons.mpr ⟨List.mem_of_getElem? qMs_111, List.forall_mem_cons.mpr ⟨List.mem_of_getElem? qMs_112, List.forall_mem_cons.mpr ⟨List.mem_of_getElem? qMs_113, List.forall_mem_cons.mpr ⟨List.mem_of_getElem? qMs_114, List.forall_mem_cons.mpr ⟨List.mem_of_getElem? qMs_115, List.forall_mem_cons.mpr ⟨List.mem_of_getElem? qMs_116, List.forall_mem_cons.mpr ⟨List.mem_of_getElem? qMs_117, List.forall_mem_cons.mpr ⟨List.mem_of_getElem? qMs_118, List.forall_mem_cons.mpr ⟨List.mem_of_getElem? qMs_119, List.forall_mem_cons.mpr ⟨List.mem_of_getElem? qMs_120, List.forall_mem_cons.mpr ⟨List.mem_of_getElem? qMs_121, List.forall_mem_cons.mpr ⟨List.mem_of_getElem? qMs_122, List.forall_mem_cons.mpr ⟨List.mem_of_getElem? qMs_123, List.forall_mem_cons.mpr ⟨List.mem_of_getElem? qMs_124, List.forall_mem_cons.mpr ⟨List.mem_of_getElem? qMs_125, List.forall_mem_cons.mpr ⟨List.mem_of_getElem? qMs_126, List.forall_mem_cons.mpr ⟨List.mem_of_getElem? qMs_127, List.forall_mem_cons.mpr ⟨List.mem_of_getElem? qMs_128, List.forall_mem_cons.mpr ⟨List.mem_of_getElem? qMs_129, List.forall_mem_cons.mpr ⟨List.mem_of_getElem? qMs_130, List.forall_mem_cons.mpr ⟨List.mem_of_getElem? qMs_131, List.forall_mem_cons.mpr ⟨List.mem_of_getElem? qMs_132, List.forall_mem_cons.mpr ⟨List.mem_of_getElem? qMs_133, List.forall_mem_cons.mpr ⟨List.mem_of_getElem? qMs_134, List.forall_mem_cons.mpr ⟨List.mem_of_getElem? qMs_135, List.forall_mem_cons.mpr ⟨List.mem_of_getElem? qMs_136, List.forall_mem_cons.mpr ⟨List.mem_of_getElem? qMs_137, List.forall_mem_cons.mpr ⟨List.mem_of_getElem? qMs_138, List.forall_mem_cons.mpr ⟨List.mem_of_getElem? qMs_139, List.forall_mem_cons.mpr ⟨List.mem_of_getElem? qMs_140, List.forall_mem_cons.mpr ⟨List.mem_of_getElem? qMs_141, List.forall_mem_cons.mpr ⟨List.mem_of_getElem? qMs_142, List.forall_mem_cons.mpr ⟨List.mem_of_getElem? qMs_143, List.forall_mem_cons.mpr ⟨List.mem_of_getElem? qMs_144, List.forall_mem_cons.mpr ⟨List.mem_of_getElem? qMs_145, List.forall_mem_cons.mpr ⟨List.mem_of_getElem? qMs_146, List.forall_mem_cons.mpr ⟨List.mem_of_getElem? qMs_147, List.forall_mem_cons.mpr ⟨List.mem_of_getElem? qMs_148, List.forall_mem_cons.mpr ⟨List.mem_of_getElem? qMs_149, List.forall_mem_cons.mpr ⟨List.mem_of_getElem? qMs_150, List.forall_mem_cons.mpr ⟨List.mem_of_getElem? qMs_151, fun _ h => absurd h List.not_mem_nil⟩⟩⟩⟩⟩⟩⟩⟩⟩⟩⟩⟩⟩⟩⟩⟩⟩⟩⟩⟩⟩⟩⟩⟩⟩⟩⟩⟩⟩⟩⟩⟩⟩⟩⟩⟩⟩⟩⟩⟩⟩⟩⟩⟩⟩⟩⟩⟩⟩⟩⟩⟩⟩⟩⟩⟩⟩⟩⟩⟩⟩⟩⟩⟩⟩⟩⟩⟩⟩⟩⟩⟩⟩⟩⟩⟩⟩⟩⟩⟩⟩⟩⟩⟩⟩⟩⟩⟩⟩⟩⟩⟩⟩⟩⟩⟩⟩⟩⟩⟩⟩⟩⟩⟩⟩⟩⟩⟩⟩⟩⟩⟩⟩⟩⟩⟩⟩⟩⟩⟩⟩⟩⟩⟩⟩⟩⟩⟩⟩⟩⟩⟩⟩⟩⟩⟩⟩⟩⟩⟩⟩⟩⟩⟩⟩⟩⟩⟩⟩⟩⟩⟩
theorem qTT_all : qTT.all goodWord = true := by decide +kernel
theorem qTT_good : ∀ w ∈ qTT, goodWord w = true := fun w h => List.all_eq_true.mp qTT_all w h
def qNl : Cond → Bool
  | .fieldLinkNest .. => true
  | .methodLinkNest .. => true
  | _ => false
theorem qNN_all : qNN.all qNl = true := by decide +kernel
theorem qNN_warm : ∀ w ∈ qNN, ∀ {s U : State}, s.WarmedH U.vm → va_Nw w s → va_Nw w U := by
  intro w hw s U hW h
  have h1 := List.all_eq_true.mp qNN_all w hw
  cases w with
  | fieldLinkNest a i b n d h9 => exact va_Nw.warmF hW h
  | methodLinkNest a i x h9 => exact va_Nw.warmM hW h
  | _ => cases h1
theorem qCl_all : (qCl.all fun q => (u_ws q.1 q.2.1 q.2.2).all (fun w => decide (w ∈ qTT))) = true := by decide +kernel
theorem qCl_ws : ∀ (ci : Nat) (C : String) (T : u_T) (N : Nat), qCl[ci]? = some (C, T, N) → ∀ w ∈ u_ws C T N, w ∈ qTT := by
  intro ci C T N h w hw
  have h1 := List.all_eq_true.mp qCl_all _ (List.mem_of_getElem? h)
  exact of_decide_eq_true (List.all_eq_true.mp h1 w hw)
theorem qTy_all : ∀ ci, ci < 9 → ∀ k, k < ((qCl[ci]?).map (fun q => q.2.2)).getD 0 → parseFieldDescriptor (((qCl.getD ci ("", fun _ => ("", "", "", false), 0)).2.1 k).2.2.1) = some (qTy ci k) := by decide +kernel
theorem qTy_ok : ∀ (ci : Nat) (C : String) (T : u_T) (N : Nat), qCl[ci]? = some (C, T, N) → ∀ k, k < N → parseFieldDescriptor (T k).2.2.1 = some (qTy ci k) := by
  intro ci C T N h k hk
  have hc : ci < 9 := by
    rcases Nat.lt_or_ge ci 9 with q | q
    · exact q
    · rw [List.getElem?_eq_none (by exact q)] at h; cases h
  have h1 := qTy_all ci hc k (by rw [h]; exact hk)
  have e9 : qCl.getD ci ("", fun _ => ("", "", "", false), 0) = (C, T, N) := by simp [List.getD, h]
  rw [e9] at h1
  exact h1
theorem qNm_all : ∀ ci, ci < 9 → ∀ a, a < ((qCl[ci]?).map (fun q => q.2.2)).getD 0 → ∀ b, b < ((qCl[ci]?).map (fun q => q.2.2)).getD 0 → a ≠ b → ((qCl.getD ci ("", fun _ => ("", "", "", false), 0)).2.1 a).2.1 ≠ ((qCl.getD ci ("", fun _ => ("", "", "", false), 0)).2.1 b).2.1 := by decide +kernel
theorem qNm_ok : ∀ (ci : Nat) (C : String) (T : u_T) (N : Nat), qCl[ci]? = some (C, T, N) → ∀ a, a < N → ∀ b, b < N → a ≠ b → (T a).2.1 ≠ (T b).2.1 := by
  intro ci C T N h a ha b hb hab
  have hc : ci < 9 := by
    rcases Nat.lt_or_ge ci 9 with q | q
    · exact q
    · rw [List.getElem?_eq_none (by exact q)] at h; cases h
  have h1 := qNm_all ci hc a (by rw [h]; exact ha) b (by rw [h]; exact hb) hab
  have e9 : qCl.getD ci ("", fun _ => ("", "", "", false), 0) = (C, T, N) := by simp [List.getD, h]
  rw [e9] at h1
  exact h1
theorem qAr_i : Cond.arrayClass .int ∈ qTT := (List.mem_of_getElem? (i := 724) (by decide +kernel))
theorem qAr_z : Cond.arrayClass .boolean ∈ qTT := (List.mem_of_getElem? (i := 725) (by decide +kernel))
theorem qAr_l : Cond.arrayClass .long ∈ qTT := (List.mem_of_getElem? (i := 726) (by decide +kernel))
theorem qOb : Cond.instanceMethod objectInit ∈ qTT := (List.mem_of_getElem? (i := 723) (by decide +kernel))
theorem qObC : ((objectInit, (⟨#[0xb1]⟩ : ByteArray), 1, none) : qY) ∈ qMs := (List.mem_of_getElem? (i := 149) rfl)
def qCol (j : Nat) : Int64 := [(-6148914691236517206 : Int64), (-3689348814741910324 : Int64), (-1085102592571150096 : Int64), (-71777214294589696 : Int64), (-281470681808896 : Int64), (-4294967296 : Int64)].getD j 0
/-- a static of references that nobody writes, and where it lies -/
def qZr (C n d : String) (A : Nat → Prop) (U : State) (H : Heap) : Prop := va_Zq C n d A U H ∧ ∃ (c : ClassId) (k : Class) (i : Nat) (f : Field) (a : Nat) (cell : Cell), U.vm.findClass C = some c ∧ U.fieldFound? C n d = some (c, k, i, f) ∧ f.isStatic = true ∧ k.statics = some a ∧ H[a]? = some cell ∧ cell.vm.isStatics = true ∧ cell.cls = c ∧ f.slot < cell.slots.size ∧ k.staticTypes[f.slot]? = some f.type ∧ ¬ A a
theorem qZr.moved {C n d : String} {A : Nat → Prop} {u U : State} {H : Heap} (hvm : u.vm.Alike U.vm) (h : qZr C n d A u H) : qZr C n d A U H := by
  obtain ⟨h0, c, k, i, f, a, cell, h1, h2, h3, h4, h5, h6, h7, h8, h9, h10⟩ := h
  obtain ⟨k', hi', he⟩ := State.fieldFound?_setVm hvm h2
  exact ⟨va_Zq.moved hvm h0, c, k', i, f, a, cell, by rw [hvm.findClass]; exact h1, hi', h3, by rw [he]; exact h4, h5, h6, h7, h8, by rw [he]; exact h9, h10⟩
theorem qZr.kept {C n d : String} {A : Nat → Prop} {U : State} {H H1 : Heap} (h : qZr C n d A U H) (hq : ∀ a : Nat, a < H.size → ¬ A a → H1[a]? = H[a]?) : qZr C n d A U H1 := by
  obtain ⟨h0, c, k, i, f, a, cell, h1, h2, h3, h4, h5, h6, h7, h8, h9, h10⟩ := h
  exact ⟨h0.kept hq, c, k, i, f, a, cell, h1, h2, h3, h4, by rw [hq a (Array.getElem?_eq_some_iff.mp h5).1 h10]; exact h5, h6, h7, h8, h9, h10⟩
/-- words of the tables that stay under warmer ones -/
def qGv : Cond → Bool
  | .declares _ => true
  | .castable _ _ => true
  | _ => false
def qGw (w : Cond) : Bool := goodWord w || qGv w
theorem qGw_good {w : Cond} (h : goodWord w = true) : qGw w = true := by unfold qGw; rw [h]; rfl
theorem qGw_at {a' : Array Value} {s U : State} (hW : s.WarmedH U.vm) {w : Cond} (hg : qGw w = true) (h : w.before #[] s = true) : w.before a' U = true := by
  by_cases hw : goodWord w = true
  · exact word_at hW (good_of_word hw) h
  · have h1 : qGv w = true := by
      unfold qGw at hg
      rw [Bool.or_eq_true] at hg
      exact hg.resolve_left hw
    cases w with
    | declares x => exact va_Nw.use rfl (va_Nw.warmD hW h)
    | castable C T => exact va_Nw.use rfl (va_Nw.warmC hW h)
    | _ => cases h1
/-- what the statics and the old cells hold all along -/
def qSt (g : qG) (U : State) (H : Heap) : Prop :=
  ((∀ w ∈ lw_tbl, qGw w = true → w.before #[] U = true) ∧ ∀ q ∈ qNc, va_Nc q.1 q.2 U) ∧
  qZr "java/lang/Throwable" "UNASSIGNED_STACK" "[Ljava/lang/StackTraceElement;" (qA g) U H ∧ qZr "java/lang/Throwable" "SUPPRESSED_SENTINEL" "Ljava/util/List;" (qA g) U H ∧
  (∀ q ∈ qSr, ∃ sa : Nat, vk_R q.1 q.2.1 q.2.2 sa U) ∧
  va_Z "FlushProofs" "COLUMNS" "[J" (.ref g.2.2.2.2) (qA g) U H ∧ va_T .long g.2.2.2.2 6 (fun j => .long (qCol j)) (qA g) U H ∧
  va_X g.2.2.2.1.1 g.2.2.2.1.2.1 g.2.2.2.1.2.2 U H ∧ ¬ qA g g.2.2.2.1.1
theorem qSt.moved {g : qG} {s U : State} {H : Heap} (hW : s.WarmedH U.vm) (h : qSt g s H) : qSt g U H :=
  ⟨⟨fun w hw hg => qGw_at hW hg (h.1.1 w hw hg), fun q hq => va_Nc.moved hW.alike (h.1.2 q hq)⟩, qZr.moved hW.alike h.2.1, qZr.moved hW.alike h.2.2.1, fun q hq => (h.2.2.2.1 q hq).elim fun sa hs => ⟨sa, vk_R.warm hW hs⟩, va_Z.moved hW.alike h.2.2.2.2.1, va_T.moved hW.alike h.2.2.2.2.2.1, va_X.moved hW.alike h.2.2.2.2.2.2.1, h.2.2.2.2.2.2.2⟩
theorem va_X.at {b L : Nat} {xs : Nat → Int32} {U : State} {H : Heap} (h : va_X b L xs U H) : b < H.size := by
  obtain ⟨scr, h1, -⟩ := h
  exact (Array.getElem?_eq_some_iff.mp h1).1
theorem qSt.kept {g : qG} {U : State} {H H1 : Heap} (h : qSt g U H) (hq : ∀ a : Nat, a < H.size → ¬ qA g a → H1[a]? = H[a]?) : qSt g U H1 :=
  ⟨h.1, h.2.1.kept hq, h.2.2.1.kept hq, h.2.2.2.1, h.2.2.2.2.1.kept hq, h.2.2.2.2.2.1.kept hq, h.2.2.2.2.2.2.1.kept (hq _ h.2.2.2.2.2.2.1.at h.2.2.2.2.2.2.2), h.2.2.2.2.2.2.2⟩
end
section
/-! THE PURE MACHINE. A memory M: how many cells, their kinds (0 int[], 1 boolean[], 2 long[], 3 + ci an object of class ci of qCl), lengths, ints, longs, fields, and how many cells and slots were made. A reference is a cell's number; the script is .retAddr 0, a table of longs .retAddr 1. g: what stays in a run. EW: the machine goes on from here to the end that Z names. -/
abbrev PM : Type := Nat × (Nat → Nat) × (Nat → Nat) × (Nat → Nat → Int32) × (Nat → Nat → Int64) × (Nat → Nat → Value) × Nat × Nat
def mS (M : PM) : Nat := M.1
def mK (M : PM) : Nat → Nat := M.2.1
def mN (M : PM) : Nat → Nat := M.2.2.1
def mI (M : PM) : Nat → Nat → Int32 := M.2.2.2.1
def mL (M : PM) : Nat → Nat → Int64 := M.2.2.2.2.1
def mF (M : PM) : Nat → Nat → Value := M.2.2.2.2.2.1
def mC (M : PM) : Nat := M.2.2.2.2.2.2.1
def mT (M : PM) : Nat := M.2.2.2.2.2.2.2
def up2 {α : Type} (f : Nat → Nat → α) (a j : Nat) (v : α) : Nat → Nat → α := fun a' j' => if a' = a ∧ j' = j then v else f a' j'
def sI (M : PM) (a j : Nat) (v : Int32) : PM := (mS M, mK M, mN M, up2 (mI M) a j v, mL M, mF M, mC M, mT M)
def sL (M : PM) (a j : Nat) (v : Int64) : PM := (mS M, mK M, mN M, mI M, up2 (mL M) a j v, mF M, mC M, mT M)
def sF (M : PM) (a j : Nat) (v : Value) : PM := (mS M, mK M, mN M, mI M, mL M, up2 (mF M) a j v, mC M, mT M)
def nA (M : PM) (kd n : Nat) : PM := (mS M + 1, va_up (mK M) (mS M) kd, va_up (mN M) (mS M) n, va_up (mI M) (mS M) (fun _ => 0), va_up (mL M) (mS M) (fun _ => 0), mF M, mC M + 1, mT M + n)
def qNf (ci : Nat) : Nat := ((qCl[ci]?).map (fun q => q.2.2)).getD 0
def nO (M : PM) (ci : Nat) : PM := (mS M + 1, va_up (mK M) (mS M) (ci + 3), mN M, mI M, mL M, va_up (mF M) (mS M) (qDf ci), mC M + 1, mT M + qNf ci)
def nX (M : PM) : PM := (mS M, mK M, mN M, mI M, mL M, mF M, mC M + 1, mT M + 6)
def rV (g : qG) (ad : Nat → Nat) : Value → Value
  | .ref k => .ref (ad k)
  | .retAddr 0 => .ref g.2.2.2.1.1
  | .retAddr (_ + 1) => .ref g.2.2.2.2
  | .int v => .int v
  | .long v => .long v
  | .float v => .float v
  | .double v => .double v
  | .null => .null
theorem rV_cat (g : qG) (ad : Nat → Nat) (v : Value) : (rV g ad v).category = v.category := by
  cases v with
  | retAddr n => cases n <;> rfl
  | _ => rfl
def wfV (n : Nat) : Value → Prop
  | .ref k => k < n
  | _ => True
def wfS (n : Nat) : List Value → Prop
  | [] => True
  | v :: st => wfV n v ∧ wfS n st
def wfL (n : Nat) (L : List (Nat × Value)) : Prop := ∀ q ∈ L, wfV n q.2
def wfM (M : PM) : Prop := (∀ k, k < mS M → 3 ≤ mK M k → ∀ j, wfV (mS M) (mF M k j)) ∧ ∀ k, mN M k < 2 ^ 31
theorem wfV_mono {n n' : Nat} (h : n ≤ n') : ∀ {v : Value}, wfV n v → wfV n' v := by
  intro v hv
  cases v <;> first | trivial | exact Nat.lt_of_lt_of_le hv h
theorem wfS_mono {n n' : Nat} (h : n ≤ n') : ∀ {st : List Value}, wfS n st → wfS n' st := by
  intro st
  induction st with
  | nil => exact fun _ => trivial
  | cons v t ih => exact fun hh => ⟨wfV_mono h hh.1, ih hh.2⟩
theorem wfL_mono {n n' : Nat} (h : n ≤ n') {L : List (Nat × Value)} (hL : wfL n L) : wfL n' L := fun q hq => wfV_mono h (hL q hq)
theorem rV_ext {g : qG} {ad ad' : Nat → Nat} {n : Nat} (h : ∀ k, k < n → ad' k = ad k) : ∀ {v : Value}, wfV n v → rV g ad' v = rV g ad v := by
  intro v hv
  cases v with
  | ref k => exact congrArg Value.ref (h k hv)
  | retAddr n => cases n <;> rfl
  | _ => rfl
theorem rS_ext {g : qG} {ad ad' : Nat → Nat} {n : Nat} (h : ∀ k, k < n → ad' k = ad k) : ∀ {st : List Value}, wfS n st → st.map (rV g ad') = st.map (rV g ad) := by
  intro st
  induction st with
  | nil => exact fun _ => rfl
  | cons v t ih => exact fun hh => by rw [List.map_cons, List.map_cons, rV_ext h hh.1, ih hh.2]
abbrev rL (g : qG) (ad : Nat → Nat) (L : List (Nat × Value)) : List (Nat × Value) := L.map (fun q => (q.1, rV g ad q.2))
theorem rL_ext {g : qG} {ad ad' : Nat → Nat} {n : Nat} (h : ∀ k, k < n → ad' k = ad k) {L : List (Nat × Value)} (hL : wfL n L) : rL g ad' L = rL g ad L :=
  List.map_congr_left fun q hq => by rw [rV_ext h (hL q hq)]
def rE (g : qG) (ad : Nat → Nat) (M : PM) (k : Nat) : va_E :=
  match mK M k with
  | 0 => .inl (g.2.2.1.1, mN M k, .inl (mI M k))
  | 1 => .inl (g.2.2.1.2.1, mN M k, .inl (mI M k))
  | 2 => .inl (g.2.2.1.2.2, mN M k, .inr (.inl (mL M k)))
  | ci + 3 => .inr (ci, (List.range (qNf ci)).map (fun j => rV g ad (mF M k j)))
theorem rE_0 {g : qG} {ad : Nat → Nat} {M : PM} {k : Nat} (h : mK M k = 0) : rE g ad M k = .inl (g.2.2.1.1, mN M k, .inl (mI M k)) := by unfold rE; rw [h]
theorem rE_1 {g : qG} {ad : Nat → Nat} {M : PM} {k : Nat} (h : mK M k = 1) : rE g ad M k = .inl (g.2.2.1.2.1, mN M k, .inl (mI M k)) := by unfold rE; rw [h]
theorem rE_2 {g : qG} {ad : Nat → Nat} {M : PM} {k : Nat} (h : mK M k = 2) : rE g ad M k = .inl (g.2.2.1.2.2, mN M k, .inr (.inl (mL M k))) := by unfold rE; rw [h]
theorem rE_3 {g : qG} {ad : Nat → Nat} {M : PM} {k ci : Nat} (h : mK M k = ci + 3) : rE g ad M k = .inr (ci, (List.range (qNf ci)).map (fun j => rV g ad (mF M k j))) := by unfold rE; rw [h]
theorem rE_ext {g : qG} {ad ad' : Nat → Nat} {M : PM} (hw : wfM M) (h : ∀ k, k < mS M → ad' k = ad k) {k : Nat} (hk : k < mS M) : rE g ad' M k = rE g ad M k := by
  rcases Nat.lt_or_ge (mK M k) 3 with h3 | h3
  · rcases (show mK M k = 0 ∨ mK M k = 1 ∨ mK M k = 2 by omega) with e | e | e
    · rw [rE_0 e, rE_0 e]
    · rw [rE_1 e, rE_1 e]
    · rw [rE_2 e, rE_2 e]
  · obtain ⟨ci, e⟩ : ∃ ci, mK M k = ci + 3 := ⟨mK M k - 3, by omega⟩
    rw [rE_3 e, rE_3 e]
    have : (fun j => rV g ad' (mF M k j)) = (fun j => rV g ad (mF M k j)) := funext fun j => rV_ext h (hw.1 k hk h3 j)
    rw [this]
def rW (g : qG) (ad : Nat → Nat) (M : PM) : va_W := (List.range (mS M)).map (fun k => (ad k, rE g ad M k))
theorem rW_get {g : qG} {ad : Nat → Nat} {M : PM} {k : Nat} (h : k < mS M) : (rW g ad M)[k]? = some (ad k, rE g ad M k) := by
  simp [rW, h]
theorem rW_set {g : qG} {ad : Nat → Nat} {M M' : PM} {k : Nat} (hs : mS M' = mS M) (ho : ∀ j, j ≠ k → rE g ad M' j = rE g ad M j) : (rW g ad M).set k (ad k, rE g ad M' k) = rW g ad M' := by
  apply List.ext_getElem?
  intro i
  rw [List.getElem?_set]
  by_cases hi : i < mS M
  · by_cases e : k = i
    · subst e
      have h1 : k < (rW g ad M).length := by simpa [rW] using hi
      rw [if_pos rfl, if_pos h1, rW_get (by rw [hs]; exact hi)]
    · rw [if_neg e, rW_get hi, rW_get (by rw [hs]; exact hi), ho i (fun z => e z.symm)]
  · have h1 : (rW g ad M)[i]? = none := by simp [rW]; omega
    have h2 : (rW g ad M')[i]? = none := by simp [rW]; omega
    have h3 : ¬ i < (rW g ad M).length := by simpa [rW] using hi
    by_cases e : k = i
    · subst e
      rw [if_pos rfl, if_neg h3, h2]
    · rw [if_neg e, h1, h2]
theorem rW_push {g : qG} {ad ad' : Nat → Nat} {M M' : PM} {q : Nat} (hs : mS M' = mS M + 1) (hq : ad' (mS M) = q) (ho : ∀ j, j < mS M → ad' j = ad j ∧ rE g ad' M' j = rE g ad M j) : rW g ad M ++ [(q, rE g ad' M' (mS M))] = rW g ad' M' := by
  unfold rW
  rw [hs, List.range_succ, List.map_append, List.map_cons, List.map_nil, hq]
  congr 1
  apply List.map_congr_left
  intro j hj
  obtain ⟨h1, h2⟩ := ho j (List.mem_range.mp hj)
  rw [h1, h2]
def qR (g : qG) (ad : Nat → Nat) (M : PM) (H : Heap) : Prop := va_P g.2.1 qCl (rW g ad M) H ∧ va_D (qA g) (rW g ad M)
/-- what holds of the tables and of the old heap all along -/
def qF (g : qG) (U : State) (H : Heap) : Prop := (∀ w ∈ qTT, w.before #[] U = true) ∧ (∀ w ∈ qNN, va_Nw w U) ∧ va_K g.2.1 qCl (qT g) U ∧ qSt g U H
theorem qF.moved {g : qG} {s U : State} {H : Heap} (hW : s.WarmedH U.vm) (h : qF g s H) : qF g U H :=
  ⟨fun w hw => word_at hW (good_of_word (qTT_good w hw)) (h.1 w hw), fun w hw => qNN_warm w hw hW (h.2.1 w hw), va_K.moved hW.alike h.2.2.1, qSt.moved hW h.2.2.2⟩
theorem qF.kept {g : qG} {U : State} {H H1 : Heap} (h : qF g U H) (hq : ∀ a : Nat, a < H.size → ¬ qA g a → H1[a]? = H[a]?) : qF g U H1 := ⟨h.1, h.2.1, h.2.2.1, qSt.kept h.2.2.2 hq⟩
theorem qF.word {g : qG} {U : State} {H : Heap} (h : qF g U H) {w : Cond} (hw : w ∈ qTT) (a : Array Value) : w.before a U = true := word_at (State.WarmedH.refl U) (good_of_word (qTT_good w hw)) (h.1 w hw)
abbrev qX : Type := Program × Launch × Env × Room × State × MethodId × Array Value × List Frame × Method × Code
abbrev qZ : Type := (Nat → Nat) × PM × (Option Value ⊕ String) × PM × Nat × Nat
abbrev xp (X : qX) : Program := X.1
abbrev xl (X : qX) : Launch := X.2.1
abbrev xe (X : qX) : Env := X.2.2.1
abbrev xR (X : qX) : Room := X.2.2.2.1
abbrev xs (X : qX) : State := X.2.2.2.2.1
abbrev xm (X : qX) : MethodId := X.2.2.2.2.2.1
abbrev xa (X : qX) : Array Value := X.2.2.2.2.2.2.1
abbrev xb (X : qX) : List Frame := X.2.2.2.2.2.2.2.1
abbrev xh (X : qX) : Method := X.2.2.2.2.2.2.2.2.1
abbrev xc (X : qX) : Code := X.2.2.2.2.2.2.2.2.2
abbrev za (Z : qZ) : Nat → Nat := Z.1
abbrev z0 (Z : qZ) : PM := Z.2.1
abbrev zr (Z : qZ) : Option Value ⊕ String := Z.2.2.1
abbrev zf (Z : qZ) : PM := Z.2.2.2.1
abbrev zn (Z : qZ) : Nat := Z.2.2.2.2.1
abbrev zl (Z : qZ) : Nat := Z.2.2.2.2.2
/-- how a method that began in st with memory M0 has ended: res, the memory then is Mf -/
def qEd (g : qG) (ad0 : Nat → Nat) (M0 : PM) (res : Option Value ⊕ String) (Mf : PM) (st : State) (o : Outcome) (t : State) : Prop :=
  ((∃ (v : Option Value) (ad : Nat → Nat), res = .inl v ∧ o = .returned (v.map (rV g ad)) ∧ (∀ k, k < mS M0 → ad k = ad0 k) ∧ qR g ad Mf t.heap ∧ wfM Mf ∧ wfS (mS Mf) v.toList) ∧ va_F (qA g) st t ∧ ∃ L, FrameEnd st o t L (mC Mf - mC M0) (mT Mf - mT M0) ∧ ∀ q ∈ L, qA g q.base) ∨
  (∃ (E : String) (q : Addr) (ce : Cell) (L : List Loc) (ad : Nat → Nat), res = .inr E ∧ o = .threw q ∧ (∀ k, k < mS M0 → ad k = ad0 k) ∧ qR g ad Mf t.heap ∧ wfM Mf ∧ va_F (qA g) st t ∧ t.heap[q]? = some ce ∧ ce.vm = .none ∧ st.vm.findClass E = some ce.cls ∧ st.WarmedH t.vm ∧ st.sameButNew ({ t with vm := st.vm } : State) L (mC Mf - mC M0) (mT Mf - mT M0) ∧ ∀ z ∈ L, qA g z.base)
def qOk (Y : qY) (g : qG) (X : qX) (Z : qZ) : Prop :=
  (xp X).tables.exec = Jvm.exec ∧ (xc X).code = Y.2.1 ∧ (xc X).maxLocals = Y.2.2.1 ∧ (xs X).vm.findClass Y.1.cls = some (xm X).cls ∧ (xh X).sig.returnType = Y.2.2.2 ∧ (xh X).locks = false ∧ (xc X).exceptionTable.toList.map (fun h => (h.startPc, h.endPc, h.handlerPc, h.catchType)) = qHd Y ∧ (xh X).name = Y.1.name ∧ (xl X).stackTraces = false ∧ qF g (xs X) (xs X).heap ∧ g.1 ≤ (xs X).heap.size ∧ zn Z ≤ (xR X).frames ∧ zl Z ≤ (xR X).locals ∧ mC (zf Z) - mC (z0 Z) ≤ (xR X).cells ∧ mT (zf Z) - mT (z0 Z) ≤ (xR X).slots
def qIn (Y : qY) (g : qG) (X : qX) (Z : qZ) (L : List (Nat × Value)) (M : PM) (ad : Nat → Nat) (H : Heap) (locs : List Loc) (cells slots : Nat) (ls : Array Slot) : Prop :=
  (mS (z0 Z) ≤ mS M ∧ ∀ k, k < mS (z0 Z) → ad k = za Z k) ∧ qR g ad M H ∧ wfM M ∧ wfL (mS M) L ∧ va_S (qA g) (xs X).heap H locs ∧ lv_has ls Y.2.2.1 (rL g ad L) ∧ cells + mC (z0 Z) = mC M ∧ slots + mT (z0 Z) = mT M
abbrev qW (g : qG) (X : qX) (Z : qZ) (H : Heap) (locs : List Loc) (cells slots : Nat) (fr : JFrame) : Prop :=
  W (xp X) (xl X) (xe X) (xR X) (xs X) (xm X) (xa X) (xb X) (xh X) (xc X) H locs cells slots (fun t => ∃ o, t.status = .running ∧ Ended t (xb X) o ∧ qEd g (za Z) (z0 Z) (zr Z) (zf Z) (xs X) o t) fr
def EW (Y : qY) (g : qG) (X : qX) (Z : qZ) (pc : Nat) (L : List (Nat × Value)) (st : List Value) (M : PM) : Prop :=
  (mC M ≤ mC (zf Z) ∧ mT M ≤ mT (zf Z) ∧ mS M ≤ mS (zf Z)) ∧ (qOk Y g X Z → ∀ (ad : Nat → Nat) (H : Heap) (locs : List Loc) (cells slots : Nat) (ls : Array Slot), qIn Y g X Z L M ad H locs cells slots ls → wfS (mS M) st → qW g X Z H locs cells slots (F0 (xm X) pc ls (st.map (rV g ad))))
def qLk : List (Nat × Value) → Nat → Option Value
  | [], _ => none
  | q :: L, i => cond (Nat.beq q.1 i) (some q.2) (qLk L i)
theorem qLk_mem {i : Nat} {v : Value} : ∀ {L : List (Nat × Value)}, qLk L i = some v → (i, v) ∈ L := by
  intro L
  induction L with
  | nil => intro h; cases h
  | cons q t ih =>
    intro h
    unfold qLk at h
    cases hb : Nat.beq q.1 i with
    | true =>
      rw [hb] at h
      have e1 : q.1 = i := Nat.eq_of_beq_eq_true hb
      have e2 : q.2 = v := Option.some.inj h
      subst e1; subst e2
      exact List.mem_cons_self
    | false =>
      rw [hb] at h
      exact List.mem_cons_of_mem _ (ih h)
theorem rL_mem {g : qG} {ad : Nat → Nat} {L : List (Nat × Value)} {ls : Array Slot} {n i : Nat} {v : Value} (h : lv_has ls n (rL g ad L)) (hv : qLk L i = some v) : ls[i]? = some (.val (rV g ad v)) :=
  h.2.2 (i, rV g ad v) (List.mem_map.mpr ⟨(i, v), qLk_mem hv, rfl⟩)
def qS1 (i : Nat) (v : Value) (L : List (Nat × Value)) : List (Nat × Value) := (i, v) :: L.filter (fun q => !(q.1 == i) && !(q.1 + 1 == i && q.2.category == 2))
def qS2 (i : Nat) (v : Value) (L : List (Nat × Value)) : List (Nat × Value) := (i, v) :: L.filter (fun q => !(q.1 == i) && (!(q.1 == i + 1) && !(q.1 + 1 == i && q.2.category == 2)))
theorem rL_S1 (g : qG) (ad : Nat → Nat) (i : Nat) (v : Value) (L : List (Nat × Value)) : (i, rV g ad v) :: (rL g ad L).filter (fun q => !(q.1 == i) && !(q.1 + 1 == i && q.2.category == 2)) = rL g ad (qS1 i v L) := by
  simp only [rL, qS1, List.map_cons, List.filter_map]
  congr 2
  apply List.filter_congr
  intro q _
  simp [rV_cat]
theorem rL_S2 (g : qG) (ad : Nat → Nat) (i : Nat) (v : Value) (L : List (Nat × Value)) : (i, rV g ad v) :: (rL g ad L).filter (fun q => !(q.1 == i) && (!(q.1 == i + 1) && !(q.1 + 1 == i && q.2.category == 2))) = rL g ad (qS2 i v L) := by
  simp only [rL, qS2, List.map_cons, List.filter_map]
  congr 2
  apply List.filter_congr
  intro q _
  simp [rV_cat]
theorem pick_mem {L L' : List (Nat × Value)} {ks : List Nat} (h : lv_pick L ks = L') : ∀ q ∈ L', q ∈ L := by
  intro q hq
  rw [← h] at hq
  obtain ⟨k, -, hk⟩ := List.mem_filterMap.mp hq
  exact List.mem_of_getElem? hk
theorem rL_sub {g : qG} {ad : Nat → Nat} {L L' : List (Nat × Value)} {ls : Array Slot} {n : Nat} (h : lv_has ls n (rL g ad L)) (hs : ∀ q ∈ L', q ∈ L) : lv_has ls n (rL g ad L') := by
  refine ⟨h.1, h.2.1, fun q hq => ?_⟩
  obtain ⟨z, hz, rfl⟩ := List.mem_map.mp hq
  exact h.2.2 _ (List.mem_map.mpr ⟨z, hs z hz, rfl⟩)
theorem qS1_mem {n i : Nat} {v : Value} {L : List (Nat × Value)} (hv : wfV n v) (hL : wfL n L) : wfL n (qS1 i v L) := by
  intro q hq
  rcases List.mem_cons.mp hq with h | h
  · rw [h]; exact hv
  · exact hL q (List.mem_filter.mp h).1
theorem qS2_mem {n i : Nat} {v : Value} {L : List (Nat × Value)} (hv : wfV n v) (hL : wfL n L) : wfL n (qS2 i v L) := by
  intro q hq
  rcases List.mem_cons.mp hq with h | h
  · rw [h]; exact hv
  · exact hL q (List.mem_filter.mp h).1
section EWR
variable {Y : qY} {g : qG} {X : qX} {Z : qZ} {pc : Nat} {L L' : List (Nat × Value)} {st : List Value} {M : PM}
/-- fewer locals, in another order -/
theorem ew_pick (ks : List Nat) (hl : lv_pick L ks = L') (k : EW Y g X Z pc L' st M) : EW Y g X Z pc L st M :=
  ⟨k.1, fun ok ad H locs cells slots ls I hs => k.2 ok ad H locs cells slots ls ⟨I.1, I.2.1, I.2.2.1, fun q hq => I.2.2.2.1 q (pick_mem hl q hq), I.2.2.2.2.1, rL_sub I.2.2.2.2.2.1 (pick_mem hl), I.2.2.2.2.2.2⟩ hs⟩
theorem ew_op {pc' : Nat} {st' : List Value} (k : EW Y g X Z pc' L st' M) (hw : wfM M → wfL (mS M) L → wfS (mS M) st → wfS (mS M) st')
    (hop : qOk Y g X Z → ∀ (ad : Nat → Nat) (H : Heap) (locs : List Loc) (cells slots : Nat) (ls : Array Slot), lv_has ls Y.2.2.1 (rL g ad L) → qW g X Z H locs cells slots (F0 (xm X) pc' ls (st'.map (rV g ad))) → qW g X Z H locs cells slots (F0 (xm X) pc ls (st.map (rV g ad)))) : EW Y g X Z pc L st M :=
  ⟨k.1, fun ok ad H locs cells slots ls I hs => hop ok ad H locs cells slots ls I.2.2.2.2.2.1 (k.2 ok ad H locs cells slots ls I (hw I.2.2.1 I.2.2.2.1 hs))⟩
theorem ew_br {c : Prop} {p1 p2 : Nat} {st' : List Value} (kt : c → EW Y g X Z p1 L st' M) (kf : ¬ c → EW Y g X Z p2 L st' M) (hw : wfS (mS M) st → wfS (mS M) st')
    (hop : qOk Y g X Z → ∀ (ad : Nat → Nat) (H : Heap) (locs : List Loc) (cells slots : Nat) (ls : Array Slot), (c → qW g X Z H locs cells slots (F0 (xm X) p1 ls (st'.map (rV g ad)))) → (¬ c → qW g X Z H locs cells slots (F0 (xm X) p2 ls (st'.map (rV g ad)))) → qW g X Z H locs cells slots (F0 (xm X) pc ls (st.map (rV g ad)))) : EW Y g X Z pc L st M :=
  ⟨(Classical.em c).elim (fun h => (kt h).1) (fun h => (kf h).1), fun ok ad H locs cells slots ls I hs => hop ok ad H locs cells slots ls (fun h => (kt h).2 ok ad H locs cells slots ls I (hw hs)) (fun h => (kf h).2 ok ad H locs cells slots ls I (hw hs))⟩

theorem ew_iconst {n : Int} (v : Int32) (hd : decode Y.2.1 pc = .ok (.iconst n, 1)) (hv : Int32.ofInt n = v) (k : EW Y g X Z (pc + 1) L (.int v :: st) M) : EW Y g X Z pc L st M :=
  ew_op k (fun _ _ h => ⟨trivial, h⟩) (fun ok ad H locs cells slots ls _ K => lv_iconst ok.1 ok.2.1 hd hv K)
theorem ew_bipush {n : Int} (v : Int32) (hd : decode Y.2.1 pc = .ok (.bipush n, 2)) (hv : (Int8.ofInt n).toInt32 = v) (k : EW Y g X Z (pc + 2) L (.int v :: st) M) : EW Y g X Z pc L st M :=
  ew_op k (fun _ _ h => ⟨trivial, h⟩) (fun ok ad H locs cells slots ls _ K => lv_bipush ok.1 ok.2.1 hd hv K)
theorem ew_sipush {n : Int} (v : Int32) (hd : decode Y.2.1 pc = .ok (.sipush n, 3)) (hv : (Int16.ofInt n).toInt32 = v) (k : EW Y g X Z (pc + 3) L (.int v :: st) M) : EW Y g X Z pc L st M :=
  ew_op k (fun _ _ h => ⟨trivial, h⟩) (fun ok ad H locs cells slots ls _ K => lv_sipush ok.1 ok.2.1 hd hv K)
theorem ew_lconst {n : Fin 2} (v : Int64) (hd : decode Y.2.1 pc = .ok (.lconst n, 1)) (hv : Int64.ofNat (n : Nat) = v) (k : EW Y g X Z (pc + 1) L (.long v :: st) M) : EW Y g X Z pc L st M :=
  ew_op k (fun _ _ h => ⟨trivial, h⟩) (fun ok ad H locs cells slots ls _ K => lv_lconst ok.1 ok.2.1 hd hv K)
theorem ew_iload_n {n : Fin 4} {x : Int32} (i : Nat) (hd : decode Y.2.1 pc = .ok (.iload_n n, 1)) (hi : (n : Nat) = i) (hx : qLk L i = some (.int x)) (k : EW Y g X Z (pc + 1) L (.int x :: st) M) : EW Y g X Z pc L st M :=
  ew_op k (fun _ hL h => ⟨trivial, h⟩) (fun ok ad H locs cells slots ls hl K => lv_iload_n ok.1 ok.2.1 hd hi (rL_mem hl hx) K)
theorem ew_iload {i : Nat} {x : Int32} (hd : decode Y.2.1 pc = .ok (.iload i, 2)) (hx : qLk L i = some (.int x)) (k : EW Y g X Z (pc + 2) L (.int x :: st) M) : EW Y g X Z pc L st M :=
  ew_op k (fun _ hL h => ⟨trivial, h⟩) (fun ok ad H locs cells slots ls hl K => lv_iload ok.1 ok.2.1 hd (rL_mem hl hx) K)
theorem ew_lload_n {n : Fin 4} {x : Int64} (i : Nat) (hd : decode Y.2.1 pc = .ok (.lload_n n, 1)) (hi : (n : Nat) = i) (hx : qLk L i = some (.long x)) (k : EW Y g X Z (pc + 1) L (.long x :: st) M) : EW Y g X Z pc L st M :=
  ew_op k (fun _ hL h => ⟨trivial, h⟩) (fun ok ad H locs cells slots ls hl K => lv_lload_n ok.1 ok.2.1 hd hi (rL_mem hl hx) K)
theorem ew_lload {i : Nat} {x : Int64} (hd : decode Y.2.1 pc = .ok (.lload i, 2)) (hx : qLk L i = some (.long x)) (k : EW Y g X Z (pc + 2) L (.long x :: st) M) : EW Y g X Z pc L st M :=
  ew_op k (fun _ hL h => ⟨trivial, h⟩) (fun ok ad H locs cells slots ls hl K => lv_lload ok.1 ok.2.1 hd (rL_mem hl hx) K)
theorem ew_aload_n {n : Fin 4} {x : Nat} (i : Nat) (hd : decode Y.2.1 pc = .ok (.aload_n n, 1)) (hi : (n : Nat) = i) (hx : qLk L i = some (.ref x)) (k : EW Y g X Z (pc + 1) L (.ref x :: st) M) : EW Y g X Z pc L st M :=
  ew_op k (fun _ hL h => ⟨hL (i, .ref x) (qLk_mem hx), h⟩) (fun ok ad H locs cells slots ls hl K => lv_aload_n ok.1 ok.2.1 hd hi (rL_mem hl hx) K)
theorem ew_aload {i : Nat} {x : Nat} (hd : decode Y.2.1 pc = .ok (.aload i, 2)) (hx : qLk L i = some (.ref x)) (k : EW Y g X Z (pc + 2) L (.ref x :: st) M) : EW Y g X Z pc L st M :=
  ew_op k (fun _ hL h => ⟨hL (i, .ref x) (qLk_mem hx), h⟩) (fun ok ad H locs cells slots ls hl K => lv_aload ok.1 ok.2.1 hd (rL_mem hl hx) K)
theorem ew_aload_s {n : Fin 4} (i : Nat) (hd : decode Y.2.1 pc = .ok (.aload_n n, 1)) (hi : (n : Nat) = i) (hx : qLk L i = some (.retAddr 0)) (k : EW Y g X Z (pc + 1) L (.retAddr 0 :: st) M) : EW Y g X Z pc L st M :=
  ew_op k (fun _ _ h => ⟨trivial, h⟩) (fun ok ad H locs cells slots ls hl K => lv_aload_n ok.1 ok.2.1 hd hi (rL_mem hl hx) K)
theorem ew_istore_n {n : Fin 4} {x : Int32} (i : Nat) (ks : List Nat) (hd : decode Y.2.1 pc = .ok (.istore_n n, 1)) (hi : (n : Nat) = i) (hn : i < Y.2.2.1) (hl : lv_pick (qS1 i (.int x) L) ks = L') (k : EW Y g X Z (pc + 1) L' st M) : EW Y g X Z pc L (.int x :: st) M :=
  ⟨k.1, fun ok ad H locs cells slots ls I hs => lv_istore_n ok.1 ok.2.1 hd hi I.2.2.2.2.2.1 hn (rL_S1 g ad i (.int x) L) (fun ls' h' => k.2 ok ad H locs cells slots ls' ⟨I.1, I.2.1, I.2.2.1, fun q hq => qS1_mem hs.1 I.2.2.2.1 q (pick_mem hl q hq), I.2.2.2.2.1, rL_sub h' (pick_mem hl), I.2.2.2.2.2.2⟩ hs.2)⟩
theorem ew_istore {x : Int32} {i : Nat} (ks : List Nat) (hd : decode Y.2.1 pc = .ok (.istore i, 2)) (hn : i < Y.2.2.1) (hl : lv_pick (qS1 i (.int x) L) ks = L') (k : EW Y g X Z (pc + 2) L' st M) : EW Y g X Z pc L (.int x :: st) M :=
  ⟨k.1, fun ok ad H locs cells slots ls I hs => lv_istore ok.1 ok.2.1 hd I.2.2.2.2.2.1 hn (rL_S1 g ad i (.int x) L) (fun ls' h' => k.2 ok ad H locs cells slots ls' ⟨I.1, I.2.1, I.2.2.1, fun q hq => qS1_mem hs.1 I.2.2.2.1 q (pick_mem hl q hq), I.2.2.2.2.1, rL_sub h' (pick_mem hl), I.2.2.2.2.2.2⟩ hs.2)⟩
theorem ew_lstore_n {n : Fin 4} {x : Int64} (i : Nat) (ks : List Nat) (hd : decode Y.2.1 pc = .ok (.lstore_n n, 1)) (hi : (n : Nat) = i) (hn : i + 1 < Y.2.2.1) (hl : lv_pick (qS2 i (.long x) L) ks = L') (k : EW Y g X Z (pc + 1) L' st M) : EW Y g X Z pc L (.long x :: st) M :=
  ⟨k.1, fun ok ad H locs cells slots ls I hs => lv_lstore_n ok.1 ok.2.1 hd hi I.2.2.2.2.2.1 hn (rL_S2 g ad i (.long x) L) (fun ls' h' => k.2 ok ad H locs cells slots ls' ⟨I.1, I.2.1, I.2.2.1, fun q hq => qS2_mem hs.1 I.2.2.2.1 q (pick_mem hl q hq), I.2.2.2.2.1, rL_sub h' (pick_mem hl), I.2.2.2.2.2.2⟩ hs.2)⟩
theorem ew_lstore {x : Int64} {i : Nat} (ks : List Nat) (hd : decode Y.2.1 pc = .ok (.lstore i, 2)) (hn : i + 1 < Y.2.2.1) (hl : lv_pick (qS2 i (.long x) L) ks = L') (k : EW Y g X Z (pc + 2) L' st M) : EW Y g X Z pc L (.long x :: st) M :=
  ⟨k.1, fun ok ad H locs cells slots ls I hs => lv_lstore ok.1 ok.2.1 hd I.2.2.2.2.2.1 hn (rL_S2 g ad i (.long x) L) (fun ls' h' => k.2 ok ad H locs cells slots ls' ⟨I.1, I.2.1, I.2.2.1, fun q hq => qS2_mem hs.1 I.2.2.2.1 q (pick_mem hl q hq), I.2.2.2.2.1, rL_sub h' (pick_mem hl), I.2.2.2.2.2.2⟩ hs.2)⟩
theorem ew_astore_n {n : Fin 4} {x : Nat} (i : Nat) (ks : List Nat) (hd : decode Y.2.1 pc = .ok (.astore_n n, 1)) (hi : (n : Nat) = i) (hn : i < Y.2.2.1) (hl : lv_pick (qS1 i (.ref x) L) ks = L') (k : EW Y g X Z (pc + 1) L' st M) : EW Y g X Z pc L (.ref x :: st) M :=
  ⟨k.1, fun ok ad H locs cells slots ls I hs => lv_astore_n ok.1 ok.2.1 hd hi I.2.2.2.2.2.1 hn (rL_S1 g ad i (.ref x) L) (fun ls' h' => k.2 ok ad H locs cells slots ls' ⟨I.1, I.2.1, I.2.2.1, fun q hq => qS1_mem hs.1 I.2.2.2.1 q (pick_mem hl q hq), I.2.2.2.2.1, rL_sub h' (pick_mem hl), I.2.2.2.2.2.2⟩ hs.2)⟩
theorem ew_astore {x : Nat} {i : Nat} (ks : List Nat) (hd : decode Y.2.1 pc = .ok (.astore i, 2)) (hn : i < Y.2.2.1) (hl : lv_pick (qS1 i (.ref x) L) ks = L') (k : EW Y g X Z (pc + 2) L' st M) : EW Y g X Z pc L (.ref x :: st) M :=
  ⟨k.1, fun ok ad H locs cells slots ls I hs => lv_astore ok.1 ok.2.1 hd I.2.2.2.2.2.1 hn (rL_S1 g ad i (.ref x) L) (fun ls' h' => k.2 ok ad H locs cells slots ls' ⟨I.1, I.2.1, I.2.2.1, fun q hq => qS1_mem hs.1 I.2.2.2.1 q (pick_mem hl q hq), I.2.2.2.2.1, rL_sub h' (pick_mem hl), I.2.2.2.2.2.2⟩ hs.2)⟩
theorem qLk_at {i : Nat} {v : Value} {L : List (Nat × Value)} (h : qLk L i = some v) : ∃ k : Nat, L[k]? = some (i, v) := List.getElem?_of_mem (qLk_mem h)
theorem ew_iinc {i : Nat} {n : Int} {x : Int32} (v : Int32) (ks : List Nat) (hd : decode Y.2.1 pc = .ok (.iinc i n, 3)) (hx : qLk L i = some (.int x)) (hv : x + Int32.ofInt n = v) (hn : i < Y.2.2.1) (hl : lv_pick (qS1 i (.int v) L) ks = L') (k : EW Y g X Z (pc + 3) L' st M) : EW Y g X Z pc L st M := by
  refine ⟨k.1, fun ok ad H locs cells slots ls I hs => ?_⟩
  obtain ⟨j, hj⟩ : ∃ j : Nat, (rL g ad L)[j]? = some (i, Value.int x) := by
    obtain ⟨j, hj⟩ := qLk_at hx
    exact ⟨j, by rw [List.getElem?_map, hj]; rfl⟩
  exact lv_iinc ok.1 ok.2.1 hd I.2.2.2.2.2.1 hj hv hn (rL_S1 g ad i (.int v) L) (fun ls' h' => k.2 ok ad H locs cells slots ls' ⟨I.1, I.2.1, I.2.2.1, fun q hq => qS1_mem (v := .int v) trivial I.2.2.2.1 q (pick_mem hl q hq), I.2.2.2.2.1, rL_sub h' (pick_mem hl), I.2.2.2.2.2.2⟩ hs)
theorem ew_iadd {x y : Int32} (hd : decode Y.2.1 pc = .ok (.iadd, 1)) (k : EW Y g X Z (pc + 1) L (.int (x + y) :: st) M) : EW Y g X Z pc L (.int y :: .int x :: st) M :=
  ew_op k (fun _ _ h => ⟨trivial, h.2.2⟩) (fun ok ad H locs cells slots ls _ K => lv_iadd ok.1 ok.2.1 hd K)
theorem ew_isub {x y : Int32} (hd : decode Y.2.1 pc = .ok (.isub, 1)) (k : EW Y g X Z (pc + 1) L (.int (x - y) :: st) M) : EW Y g X Z pc L (.int y :: .int x :: st) M :=
  ew_op k (fun _ _ h => ⟨trivial, h.2.2⟩) (fun ok ad H locs cells slots ls _ K => lv_isub ok.1 ok.2.1 hd K)
theorem ew_imul {x y : Int32} (hd : decode Y.2.1 pc = .ok (.imul, 1)) (k : EW Y g X Z (pc + 1) L (.int (x * y) :: st) M) : EW Y g X Z pc L (.int y :: .int x :: st) M :=
  ew_op k (fun _ _ h => ⟨trivial, h.2.2⟩) (fun ok ad H locs cells slots ls _ K => lv_imul ok.1 ok.2.1 hd K)
theorem ew_iand {x y : Int32} (hd : decode Y.2.1 pc = .ok (.iand, 1)) (k : EW Y g X Z (pc + 1) L (.int (x &&& y) :: st) M) : EW Y g X Z pc L (.int y :: .int x :: st) M :=
  ew_op k (fun _ _ h => ⟨trivial, h.2.2⟩) (fun ok ad H locs cells slots ls _ K => lv_iand ok.1 ok.2.1 hd K)
theorem ew_ior {x y : Int32} (hd : decode Y.2.1 pc = .ok (.ior, 1)) (k : EW Y g X Z (pc + 1) L (.int (x ||| y) :: st) M) : EW Y g X Z pc L (.int y :: .int x :: st) M :=
  ew_op k (fun _ _ h => ⟨trivial, h.2.2⟩) (fun ok ad H locs cells slots ls _ K => lv_ior ok.1 ok.2.1 hd K)
theorem ew_ixor {x y : Int32} (hd : decode Y.2.1 pc = .ok (.ixor, 1)) (k : EW Y g X Z (pc + 1) L (.int (x ^^^ y) :: st) M) : EW Y g X Z pc L (.int y :: .int x :: st) M :=
  ew_op k (fun _ _ h => ⟨trivial, h.2.2⟩) (fun ok ad H locs cells slots ls _ K => lv_ixor ok.1 ok.2.1 hd K)
theorem ew_ishl {x y : Int32} (hd : decode Y.2.1 pc = .ok (.ishl, 1)) (k : EW Y g X Z (pc + 1) L (.int (x <<< (y &&& 31)) :: st) M) : EW Y g X Z pc L (.int y :: .int x :: st) M :=
  ew_op k (fun _ _ h => ⟨trivial, h.2.2⟩) (fun ok ad H locs cells slots ls _ K => lv_ishl ok.1 ok.2.1 hd K)
theorem ew_ishr {x y : Int32} (hd : decode Y.2.1 pc = .ok (.ishr, 1)) (k : EW Y g X Z (pc + 1) L (.int (x >>> (y &&& 31)) :: st) M) : EW Y g X Z pc L (.int y :: .int x :: st) M :=
  ew_op k (fun _ _ h => ⟨trivial, h.2.2⟩) (fun ok ad H locs cells slots ls _ K => lv_ishr ok.1 ok.2.1 hd K)
theorem ew_ladd {x y : Int64} (hd : decode Y.2.1 pc = .ok (.ladd, 1)) (k : EW Y g X Z (pc + 1) L (.long (x + y) :: st) M) : EW Y g X Z pc L (.long y :: .long x :: st) M :=
  ew_op k (fun _ _ h => ⟨trivial, h.2.2⟩) (fun ok ad H locs cells slots ls _ K => lv_ladd ok.1 ok.2.1 hd K)
theorem ew_lsub {x y : Int64} (hd : decode Y.2.1 pc = .ok (.lsub, 1)) (k : EW Y g X Z (pc + 1) L (.long (x - y) :: st) M) : EW Y g X Z pc L (.long y :: .long x :: st) M :=
  ew_op k (fun _ _ h => ⟨trivial, h.2.2⟩) (fun ok ad H locs cells slots ls _ K => lv_lsub ok.1 ok.2.1 hd K)
theorem ew_lmul {x y : Int64} (hd : decode Y.2.1 pc = .ok (.lmul, 1)) (k : EW Y g X Z (pc + 1) L (.long (x * y) :: st) M) : EW Y g X Z pc L (.long y :: .long x :: st) M :=
  ew_op k (fun _ _ h => ⟨trivial, h.2.2⟩) (fun ok ad H locs cells slots ls _ K => lv_lmul ok.1 ok.2.1 hd K)
theorem ew_land {x y : Int64} (hd : decode Y.2.1 pc = .ok (.land, 1)) (k : EW Y g X Z (pc + 1) L (.long (x &&& y) :: st) M) : EW Y g X Z pc L (.long y :: .long x :: st) M :=
  ew_op k (fun _ _ h => ⟨trivial, h.2.2⟩) (fun ok ad H locs cells slots ls _ K => lv_land ok.1 ok.2.1 hd K)
theorem ew_lor {x y : Int64} (hd : decode Y.2.1 pc = .ok (.lor, 1)) (k : EW Y g X Z (pc + 1) L (.long (x ||| y) :: st) M) : EW Y g X Z pc L (.long y :: .long x :: st) M :=
  ew_op k (fun _ _ h => ⟨trivial, h.2.2⟩) (fun ok ad H locs cells slots ls _ K => lv_lor ok.1 ok.2.1 hd K)
theorem ew_lxor {x y : Int64} (hd : decode Y.2.1 pc = .ok (.lxor, 1)) (k : EW Y g X Z (pc + 1) L (.long (x ^^^ y) :: st) M) : EW Y g X Z pc L (.long y :: .long x :: st) M :=
  ew_op k (fun _ _ h => ⟨trivial, h.2.2⟩) (fun ok ad H locs cells slots ls _ K => lv_lxor ok.1 ok.2.1 hd K)
theorem ew_ineg {x : Int32} (hd : decode Y.2.1 pc = .ok (.ineg, 1)) (k : EW Y g X Z (pc + 1) L (.int (-x) :: st) M) : EW Y g X Z pc L (.int x :: st) M :=
  ew_op k (fun _ _ h => ⟨trivial, h.2⟩) (fun ok ad H locs cells slots ls _ K => lv_ineg ok.1 ok.2.1 hd K)
theorem ew_lneg {x : Int64} (hd : decode Y.2.1 pc = .ok (.lneg, 1)) (k : EW Y g X Z (pc + 1) L (.long (-x) :: st) M) : EW Y g X Z pc L (.long x :: st) M :=
  ew_op k (fun _ _ h => ⟨trivial, h.2⟩) (fun ok ad H locs cells slots ls _ K => lv_lneg ok.1 ok.2.1 hd K)
theorem ew_iushr {x y : Int32} (hd : decode Y.2.1 pc = .ok (.iushr, 1)) (k : EW Y g X Z (pc + 1) L (.int (x.toUInt32 >>> (y.toUInt32 &&& Int32.toUInt32 31)).toInt32 :: st) M) : EW Y g X Z pc L (.int y :: .int x :: st) M :=
  ew_op k (fun _ _ h => ⟨trivial, h.2.2⟩) (fun ok ad H locs cells slots ls _ K => lv_iushr ok.1 ok.2.1 hd rfl K)
theorem ew_lushr {x : Int64} {y : Int32} (hd : decode Y.2.1 pc = .ok (.lushr, 1)) (k : EW Y g X Z (pc + 1) L (.long (x.toUInt64 >>> (y.toInt64.toUInt64 &&& Int64.toUInt64 63)).toInt64 :: st) M) : EW Y g X Z pc L (.int y :: .long x :: st) M :=
  ew_op k (fun _ _ h => ⟨trivial, h.2.2⟩) (fun ok ad H locs cells slots ls _ K => lv_lushr ok.1 ok.2.1 hd rfl K)
theorem ew_lshl {x : Int64} {y : Int32} (hd : decode Y.2.1 pc = .ok (.lshl, 1)) (k : EW Y g X Z (pc + 1) L (.long (x <<< (y.toInt64 &&& 63)) :: st) M) : EW Y g X Z pc L (.int y :: .long x :: st) M :=
  ew_op k (fun _ _ h => ⟨trivial, h.2.2⟩) (fun ok ad H locs cells slots ls _ K => lv_lshl ok.1 ok.2.1 hd rfl K)
theorem ew_lshr {x : Int64} {y : Int32} (hd : decode Y.2.1 pc = .ok (.lshr, 1)) (k : EW Y g X Z (pc + 1) L (.long (x >>> (y.toInt64 &&& 63)) :: st) M) : EW Y g X Z pc L (.int y :: .long x :: st) M :=
  ew_op k (fun _ _ h => ⟨trivial, h.2.2⟩) (fun ok ad H locs cells slots ls _ K => lv_lshr ok.1 ok.2.1 hd rfl K)
theorem ew_i2l {x : Int32} (hd : decode Y.2.1 pc = .ok (.i2l, 1)) (k : EW Y g X Z (pc + 1) L (.long x.toInt64 :: st) M) : EW Y g X Z pc L (.int x :: st) M :=
  ew_op k (fun _ _ h => ⟨trivial, h.2⟩) (fun ok ad H locs cells slots ls _ K => lv_i2l ok.1 ok.2.1 hd rfl K)
theorem ew_l2i {x : Int64} (hd : decode Y.2.1 pc = .ok (.l2i, 1)) (k : EW Y g X Z (pc + 1) L (.int x.toInt32 :: st) M) : EW Y g X Z pc L (.long x :: st) M :=
  ew_op k (fun _ _ h => ⟨trivial, h.2⟩) (fun ok ad H locs cells slots ls _ K => lv_l2i ok.1 ok.2.1 hd rfl K)
theorem ew_lcmp {x y : Int64} (hd : decode Y.2.1 pc = .ok (.lcmp, 1)) (k : EW Y g X Z (pc + 1) L (.int (lg_cmp x y) :: st) M) : EW Y g X Z pc L (.long y :: .long x :: st) M :=
  ew_op k (fun _ _ h => ⟨trivial, h.2.2⟩) (fun ok ad H locs cells slots ls _ K => W.lcmp ok.1 ok.2.1 hd K)
theorem ew_dup {v : Value} (hd : decode Y.2.1 pc = .ok (.dup, 1)) (hc : v.category = 1) (k : EW Y g X Z (pc + 1) L (v :: v :: st) M) : EW Y g X Z pc L (v :: st) M :=
  ew_op k (fun _ _ h => ⟨h.1, h⟩) (fun ok ad H locs cells slots ls _ K => lv_dup ok.1 ok.2.1 hd (by rw [rV_cat]; exact hc) K)
theorem ew_pop {v : Value} (hd : decode Y.2.1 pc = .ok (.pop, 1)) (hc : v.category = 1) (k : EW Y g X Z (pc + 1) L st M) : EW Y g X Z pc L (v :: st) M :=
  ew_op k (fun _ _ h => h.2) (fun ok ad H locs cells slots ls _ K => lv_pop ok.1 ok.2.1 hd (by rw [rV_cat]; exact hc) K)
theorem ew_dup_x1 {v u : Value} (hd : decode Y.2.1 pc = .ok (.dup_x1, 1)) (hc : v.category = 1) (hu : u.category = 1) (k : EW Y g X Z (pc + 1) L (v :: u :: v :: st) M) : EW Y g X Z pc L (v :: u :: st) M :=
  ew_op k (fun _ _ h => ⟨h.1, h.2.1, h.1, h.2.2⟩) (fun ok ad H locs cells slots ls _ K => lv_dup_x1 ok.1 ok.2.1 hd (by rw [rV_cat]; exact hc) (by rw [rV_cat]; exact hu) K)
theorem ew_dup2 {v u : Value} (hd : decode Y.2.1 pc = .ok (.dup2, 1)) (hc : v.category = 1) (hu : u.category = 1) (k : EW Y g X Z (pc + 1) L (v :: u :: v :: u :: st) M) : EW Y g X Z pc L (v :: u :: st) M :=
  ew_op k (fun _ _ h => ⟨h.1, h.2.1, h⟩) (fun ok ad H locs cells slots ls _ K => lv_dup2_11 ok.1 ok.2.1 hd (by rw [rV_cat]; exact hc) (by rw [rV_cat]; exact hu) K)
theorem ew_goto {off : Int} (tgt : Nat) (hd : decode Y.2.1 pc = .ok (.goto off, 3)) (ht : (pc : Int) + off = (tgt : Int)) (k : EW Y g X Z tgt L st M) : EW Y g X Z pc L st M :=
  ew_op k (fun _ _ h => h) (fun ok ad H locs cells slots ls _ K => lv_goto ok.1 ok.2.1 hd ht K)
theorem ew_if_eq {x : Int32} {off : Int} (tgt : Nat) (hd : decode Y.2.1 pc = .ok (.ifCond .eq off, 3)) (ht : (pc : Int) + off = (tgt : Int)) (kt : x = 0 → EW Y g X Z tgt L st M) (kf : ¬ x = 0 → EW Y g X Z (pc + 3) L st M) : EW Y g X Z pc L (.int x :: st) M :=
  ew_br (c := x = 0) kt kf (fun h => h.2) (fun ok ad H locs cells slots ls Kt Kf => lv_if_eq ok.1 ok.2.1 hd ht Kt Kf)
theorem ew_icmp_eq {x y : Int32} {off : Int} (tgt : Nat) (hd : decode Y.2.1 pc = .ok (.if_icmp .eq off, 3)) (ht : (pc : Int) + off = (tgt : Int)) (kt : x = y → EW Y g X Z tgt L st M) (kf : ¬ x = y → EW Y g X Z (pc + 3) L st M) : EW Y g X Z pc L (.int y :: .int x :: st) M :=
  ew_br (c := x = y) kt kf (fun h => h.2.2) (fun ok ad H locs cells slots ls Kt Kf => lv_icmp_eq ok.1 ok.2.1 hd ht Kt Kf)
theorem ew_if_ne {x : Int32} {off : Int} (tgt : Nat) (hd : decode Y.2.1 pc = .ok (.ifCond .ne off, 3)) (ht : (pc : Int) + off = (tgt : Int)) (kt : ¬ x = 0 → EW Y g X Z tgt L st M) (kf : x = 0 → EW Y g X Z (pc + 3) L st M) : EW Y g X Z pc L (.int x :: st) M :=
  ew_br (c := x = 0) kf kt (fun h => h.2) (fun ok ad H locs cells slots ls Kf Kt => lv_if_ne ok.1 ok.2.1 hd ht Kt Kf)
theorem ew_icmp_ne {x y : Int32} {off : Int} (tgt : Nat) (hd : decode Y.2.1 pc = .ok (.if_icmp .ne off, 3)) (ht : (pc : Int) + off = (tgt : Int)) (kt : ¬ x = y → EW Y g X Z tgt L st M) (kf : x = y → EW Y g X Z (pc + 3) L st M) : EW Y g X Z pc L (.int y :: .int x :: st) M :=
  ew_br (c := x = y) kf kt (fun h => h.2.2) (fun ok ad H locs cells slots ls Kf Kt => lv_icmp_ne ok.1 ok.2.1 hd ht Kt Kf)
theorem ew_if_lt {x : Int32} {off : Int} (tgt : Nat) (hd : decode Y.2.1 pc = .ok (.ifCond .lt off, 3)) (ht : (pc : Int) + off = (tgt : Int)) (kt : x < 0 → EW Y g X Z tgt L st M) (kf : ¬ x < 0 → EW Y g X Z (pc + 3) L st M) : EW Y g X Z pc L (.int x :: st) M :=
  ew_br (c := x < 0) kt kf (fun h => h.2) (fun ok ad H locs cells slots ls Kt Kf => lv_if_lt ok.1 ok.2.1 hd ht Kt Kf)
theorem ew_icmp_lt {x y : Int32} {off : Int} (tgt : Nat) (hd : decode Y.2.1 pc = .ok (.if_icmp .lt off, 3)) (ht : (pc : Int) + off = (tgt : Int)) (kt : x < y → EW Y g X Z tgt L st M) (kf : ¬ x < y → EW Y g X Z (pc + 3) L st M) : EW Y g X Z pc L (.int y :: .int x :: st) M :=
  ew_br (c := x < y) kt kf (fun h => h.2.2) (fun ok ad H locs cells slots ls Kt Kf => lv_icmp_lt ok.1 ok.2.1 hd ht Kt Kf)
theorem ew_if_ge {x : Int32} {off : Int} (tgt : Nat) (hd : decode Y.2.1 pc = .ok (.ifCond .ge off, 3)) (ht : (pc : Int) + off = (tgt : Int)) (kt : 0 ≤ x → EW Y g X Z tgt L st M) (kf : ¬ 0 ≤ x → EW Y g X Z (pc + 3) L st M) : EW Y g X Z pc L (.int x :: st) M :=
  ew_br (c := 0 ≤ x) kt kf (fun h => h.2) (fun ok ad H locs cells slots ls Kt Kf => lv_if_ge ok.1 ok.2.1 hd ht Kt Kf)
theorem ew_icmp_ge {x y : Int32} {off : Int} (tgt : Nat) (hd : decode Y.2.1 pc = .ok (.if_icmp .ge off, 3)) (ht : (pc : Int) + off = (tgt : Int)) (kt : y ≤ x → EW Y g X Z tgt L st M) (kf : ¬ y ≤ x → EW Y g X Z (pc + 3) L st M) : EW Y g X Z pc L (.int y :: .int x :: st) M :=
  ew_br (c := y ≤ x) kt kf (fun h => h.2.2) (fun ok ad H locs cells slots ls Kt Kf => lv_icmp_ge ok.1 ok.2.1 hd ht Kt Kf)
theorem ew_if_gt {x : Int32} {off : Int} (tgt : Nat) (hd : decode Y.2.1 pc = .ok (.ifCond .gt off, 3)) (ht : (pc : Int) + off = (tgt : Int)) (kt : 0 < x → EW Y g X Z tgt L st M) (kf : ¬ 0 < x → EW Y g X Z (pc + 3) L st M) : EW Y g X Z pc L (.int x :: st) M :=
  ew_br (c := 0 < x) kt kf (fun h => h.2) (fun ok ad H locs cells slots ls Kt Kf => lv_if_gt ok.1 ok.2.1 hd ht Kt Kf)
theorem ew_icmp_gt {x y : Int32} {off : Int} (tgt : Nat) (hd : decode Y.2.1 pc = .ok (.if_icmp .gt off, 3)) (ht : (pc : Int) + off = (tgt : Int)) (kt : y < x → EW Y g X Z tgt L st M) (kf : ¬ y < x → EW Y g X Z (pc + 3) L st M) : EW Y g X Z pc L (.int y :: .int x :: st) M :=
  ew_br (c := y < x) kt kf (fun h => h.2.2) (fun ok ad H locs cells slots ls Kt Kf => lv_icmp_gt ok.1 ok.2.1 hd ht Kt Kf)
theorem ew_if_le {x : Int32} {off : Int} (tgt : Nat) (hd : decode Y.2.1 pc = .ok (.ifCond .le off, 3)) (ht : (pc : Int) + off = (tgt : Int)) (kt : x ≤ 0 → EW Y g X Z tgt L st M) (kf : ¬ x ≤ 0 → EW Y g X Z (pc + 3) L st M) : EW Y g X Z pc L (.int x :: st) M :=
  ew_br (c := x ≤ 0) kt kf (fun h => h.2) (fun ok ad H locs cells slots ls Kt Kf => lv_if_le ok.1 ok.2.1 hd ht Kt Kf)
theorem ew_icmp_le {x y : Int32} {off : Int} (tgt : Nat) (hd : decode Y.2.1 pc = .ok (.if_icmp .le off, 3)) (ht : (pc : Int) + off = (tgt : Int)) (kt : x ≤ y → EW Y g X Z tgt L st M) (kf : ¬ x ≤ y → EW Y g X Z (pc + 3) L st M) : EW Y g X Z pc L (.int y :: .int x :: st) M :=
  ew_br (c := x ≤ y) kt kf (fun h => h.2.2) (fun ok ad H locs cells slots ls Kt Kf => lv_icmp_le ok.1 ok.2.1 hd ht Kt Kf)
theorem ew_swOut {dflt lo hi : Int} {offs : Array Int} {len : Nat} {x : Int32} (tgt : Nat) (hd : decode Y.2.1 pc = .ok (.tableswitch dflt lo hi offs, len)) (h : x.toInt < lo ∨ hi < x.toInt) (ht : (pc : Int) + dflt = (tgt : Int)) (k : EW Y g X Z tgt L st M) : EW Y g X Z pc L (.int x :: st) M :=
  ew_op k (fun _ _ h => h.2) (fun ok ad H locs cells slots ls _ K => lv_tableOut ok.1 ok.2.1 hd h ht K)
theorem ew_swIn {dflt lo hi : Int} {offs : Array Int} {len : Nat} {x : Int32} {off : Int} (tgt : Nat) (hd : decode Y.2.1 pc = .ok (.tableswitch dflt lo hi offs, len)) (h1 : ¬ x.toInt < lo) (h2 : ¬ hi < x.toInt) (ho : offs[(x.toInt - lo).toNat]? = some off) (ht : (pc : Int) + off = (tgt : Int)) (k : EW Y g X Z tgt L st M) : EW Y g X Z pc L (.int x :: st) M :=
  ew_op k (fun _ _ h => h.2) (fun ok ad H locs cells slots ls _ K => lv_tableIn ok.1 ok.2.1 hd h1 h2 ho ht K)
end EWR
end
section
/-! THE PURE MACHINE: fields, arrays, makings, answers, contracts, calls -/
theorem set_range {n k : Nat} {f : Nat → Value} {x : Value} : ((List.range n).map f).set k x = (List.range n).map (fun j => if j = k then x else f j) := by
  apply List.ext_getElem?
  intro i
  rw [List.getElem?_set]
  by_cases e : k = i
  · subst e
    by_cases h : k < n
    · simp [h]
    · simp [h]
  · have e' : ¬ i = k := fun z => e z.symm
    by_cases h : i < n
    · simp [e, e', h]
    · simp [e, h]
theorem rE_congr {g : qG} {ad : Nat → Nat} {M M' : PM} {k : Nat} (h1 : mK M' k = mK M k) (h2 : mN M' k = mN M k) (h3 : mI M' k = mI M k) (h4 : mL M' k = mL M k) (h5 : mF M' k = mF M k) : rE g ad M' k = rE g ad M k := by
  unfold rE
  rw [h1, h2, h3, h4, h5]
theorem up2_ne {α : Type} {f : Nat → Nat → α} {a j k : Nat} {v : α} (h : k ≠ a) : up2 f a j v k = f k := by
  funext i
  simp [up2, h]
theorem up2_I {f : Nat → Nat → Int32} {a j : Nat} {v : Int32} : up2 f a j v a = upd (f a) j v := by
  funext i
  simp [up2, upd]
theorem up2_L {f : Nat → Nat → Int64} {a j : Nat} {v : Int64} : up2 f a j v a = vp_updL (f a) j v := by
  funext i
  simp [up2, vp_updL]
theorem va_up_ne' {α : Type} {f : Nat → α} {k j : Nat} {v : α} (h : j < k) : va_up f k v j = f j := va_up_ne f v (Nat.ne_of_lt h)
def qFl (own : String) (ix ci k : Nat) (fin : Bool) : Prop := ∃ (C : String) (T : u_T) (N : Nat), qCl[ci]? = some (C, T, N) ∧ k < N ∧ (T k).2.2.2 = fin ∧ (fin = true → (T k).1 = own → (T k).1 = own ∧ Cond.fieldLink own ix (T k).1 (T k).2.1 (T k).2.2.1 ∈ qTT) ∧ ((Cond.fieldLink own ix (T k).1 (T k).2.1 (T k).2.2.1 ∈ qTT) ∨ ∃ host, Cond.fieldLinkNest own ix (T k).1 (T k).2.1 (T k).2.2.1 host ∈ qNN)
def qNw (own : String) (ix ci : Nat) : Prop := ∃ (C : String) (T : u_T) (N : Nat), qCl[ci]? = some (C, T, N) ∧ Cond.classLink own ix C ∈ qTT ∧ Cond.instantiable C N ∈ qTT ∧ Cond.initialized C ∈ qTT
section EWH
variable {Y : qY} {g : qG} {X : qX} {Z : qZ} {pc : Nat} {L L' : List (Nat × Value)} {st : List Value} {M : PM}
theorem ew_getfield {ix a : Nat} {fin : Bool} (ci kk : Nat) (hd : decode Y.2.1 pc = .ok (.getfield ix, 3)) (hf : qFl Y.1.cls ix ci kk fin) (hk : mK M a = ci + 3) (k : EW Y g X Z (pc + 3) L (mF M a kk :: st) M) : EW Y g X Z pc L (.ref a :: st) M := by
  refine ⟨k.1, fun ok ad H locs cells slots ls I hs => ?_⟩
  obtain ⟨C, T, N, hc, hkN, -, -, hlink⟩ := hf
  obtain ⟨hx, hb, hml, hown, hr, hlk, hEx, hnm, hst, hF, hg0, -⟩ := id ok
  have hin := qCl_ws ci C T N hc
  have hN : qNf ci = N := by simp [qNf, hc]
  have ha : a < mS M := hs.1
  have hwn : wfS (mS M) (mF M a kk :: st) := ⟨I.2.2.1.1 a ha (by omega) kk, hs.2⟩
  have he : (rW g ad M)[a]? = some (ad a, .inr (ci, (List.range (qNf ci)).map (fun j => rV g ad (mF M a j)))) := by rw [rW_get ha, rE_3 hk]
  have hv : ((List.range (qNf ci)).map (fun j => rV g ad (mF M a j)))[kk]? = some (rV g ad (mF M a kk)) := by simp [hN, hkN]
  have hts : ∀ w ∈ qTT, w.before (xa X) (xs X) = true := fun w hw => hF.word hw _
  rcases hlink with hl | ⟨host, hl⟩
  · exact va_get hx hb hts hin hown hF.2.2.1 I.2.1.1 a he hc kk hkN (hts _ hl) (fun _ h => h) hv hd (k.2 ok ad H locs cells slots ls I hwn)
  · exact va_getN hx hb hts hin hown hF.2.2.1 I.2.1.1 a he hc kk hkN (va_Nw.use rfl (hF.2.1 _ hl)) (fun _ h => h) hv hd (k.2 ok ad H locs cells slots ls I hwn)
theorem rE_sF {ad : Nat → Nat} {a ci kk : Nat} {v : Value} (hk : mK M a = ci + 3) : rE g ad (sF M a kk v) a = .inr (ci, ((List.range (qNf ci)).map (fun j => rV g ad (mF M a j))).set kk (rV g ad v)) := by
  rw [rE_3 (M := sF M a kk v) hk, set_range]
  congr 2
  apply List.map_congr_left
  intro j _
  show rV g ad (up2 (mF M) a kk v a j) = _
  by_cases e : j = kk
  · simp [up2, e]
  · simp [up2, e]
theorem rW_sF {ad : Nat → Nat} {a ci kk : Nat} {v : Value} (hk : mK M a = ci + 3) : (rW g ad M).set a (ad a, .inr (ci, ((List.range (qNf ci)).map (fun j => rV g ad (mF M a j))).set kk (rV g ad v))) = rW g ad (sF M a kk v) := by
  rw [← rE_sF hk]
  exact rW_set rfl (fun j hj => rE_congr rfl rfl rfl rfl (up2_ne hj))
theorem wfM_sF {a kk : Nat} {v : Value} (hw : wfM M) (hv : wfV (mS M) v) : wfM (sF M a kk v) := by
  refine ⟨fun k hk h3 j => ?_, hw.2⟩
  show wfV (mS M) (up2 (mF M) a kk v k j)
  unfold up2
  split
  · exact hv
  · exact hw.1 k hk h3 j
theorem ew_putfield {ix a : Nat} {v : Value} (ci kk : Nat) (hd : decode Y.2.1 pc = .ok (.putfield ix, 3)) (hf : qFl Y.1.cls ix ci kk false) (hk : mK M a = ci + 3) (hfit : ∀ ad, narrow (qTy ci kk) (rV g ad v) = rV g ad v ∧ fits (qTy ci kk) (rV g ad v) = true) (k : EW Y g X Z (pc + 3) L st (sF M a kk v)) : EW Y g X Z pc L (v :: .ref a :: st) M := by
  refine ⟨k.1, fun ok ad H locs cells slots ls I hs => ?_⟩
  obtain ⟨C, T, N, hc, hkN, hfin, -, hlink⟩ := hf
  obtain ⟨hx, hb, hml, hown, hr, hlk, hEx, hnm, hst, hF, hg0, -⟩ := id ok
  have hin := qCl_ws ci C T N hc
  have hN : qNf ci = N := by simp [qNf, hc]
  have ha : a < mS M := hs.2.1
  have he : (rW g ad M)[a]? = some (ad a, .inr (ci, (List.range (qNf ci)).map (fun j => rV g ad (mF M a j)))) := by rw [rW_get ha, rE_3 hk]
  have hl9 : kk < ((List.range (qNf ci)).map (fun j => rV g ad (mF M a j))).length := by simp [hN, hkN]
  have hts : ∀ w ∈ qTT, w.before (xa X) (xs X) = true := fun w hw => hF.word hw _
  have go : ∀ (H1 : Heap) (locs1 : List Loc), va_P g.2.1 qCl ((rW g ad M).set a (ad a, .inr (ci, ((List.range (qNf ci)).map (fun j => rV g ad (mF M a j))).set kk (rV g ad v)))) H1 → va_D (qA g) ((rW g ad M).set a (ad a, .inr (ci, ((List.range (qNf ci)).map (fun j => rV g ad (mF M a j))).set kk (rV g ad v)))) → va_S (qA g) (xs X).heap H1 locs1 → qW g X Z H1 locs1 cells slots (F0 (xm X) (pc + 3) ls (st.map (rV g ad))) := by
    intro H1 locs1 p1 d1 s1
    rw [rW_sF hk] at p1 d1
    exact k.2 ok ad H1 locs1 cells slots ls ⟨I.1, ⟨p1, d1⟩, wfM_sF I.2.2.1 hs.1, I.2.2.2.1, s1, I.2.2.2.2.2⟩ hs.2.2
  rcases hlink with hl | ⟨host, hl⟩
  · exact va_put hx hb hts hin (qTy ci) (qTy_ok ci C T N hc) (qNm_ok ci C T N hc) hown hF.2.2.1 I.2.1.1 I.2.1.2 I.2.2.2.2.1 a he hc kk hkN (hts _ hl) (fun _ h => h) hfin (qTy_ok ci C T N hc kk hkN) (hfit ad).1 (hfit ad).2 hl9 hd go
  · exact va_putN hx hb hts hin (qTy ci) (qTy_ok ci C T N hc) (qNm_ok ci C T N hc) hown hF.2.2.1 I.2.1.1 I.2.1.2 I.2.2.2.2.1 a he hc kk hkN (va_Nw.use rfl (hF.2.1 _ hl)) (fun _ h => h) hfin (qTy_ok ci C T N hc kk hkN) (hfit ad).1 (hfit ad).2 hl9 hd go
theorem ew_putfieldF {ix a : Nat} {v : Value} (ci kk : Nat) (hd : decode Y.2.1 pc = .ok (.putfield ix, 3)) (hf : qFl Y.1.cls ix ci kk true) (hi : Y.1.name = "<init>") (hoc : ((qCl.getD ci ("", fun _ => ("", "", "", false), 0)).2.1 kk).1 = Y.1.cls) (hk : mK M a = ci + 3) (hfit : ∀ ad, narrow (qTy ci kk) (rV g ad v) = rV g ad v ∧ fits (qTy ci kk) (rV g ad v) = true) (k : EW Y g X Z (pc + 3) L st (sF M a kk v)) : EW Y g X Z pc L (v :: .ref a :: st) M := by
  refine ⟨k.1, fun ok ad H locs cells slots ls I hs => ?_⟩
  obtain ⟨C, T, N, hc, hkN, hfin, hown9, -⟩ := hf
  obtain ⟨hx, hb, hml, hown, hr, hlk, hEx, hnm, hst, hF, hg0, -⟩ := id ok
  have hin := qCl_ws ci C T N hc
  have hN : qNf ci = N := by simp [qNf, hc]
  have ha : a < mS M := hs.2.1
  have he : (rW g ad M)[a]? = some (ad a, .inr (ci, (List.range (qNf ci)).map (fun j => rV g ad (mF M a j)))) := by rw [rW_get ha, rE_3 hk]
  have hl9 : kk < ((List.range (qNf ci)).map (fun j => rV g ad (mF M a j))).length := by simp [hN, hkN]
  have hts : ∀ w ∈ qTT, w.before (xa X) (xs X) = true := fun w hw => hF.word hw _
  have e9 : qCl.getD ci ("", fun _ => ("", "", "", false), 0) = (C, T, N) := by simp [List.getD, hc]
  rw [e9] at hoc
  have hl := (hown9 rfl hoc).2
  refine va_putF hx hb hts hin (qTy ci) (qTy_ok ci C T N hc) (qNm_ok ci C T N hc) hown hF.2.2.1 I.2.1.1 I.2.1.2 I.2.2.2.2.1 a he hc kk hkN (hts _ hl) (fun _ h => h) hfin (hnm.trans hi) hoc (qTy_ok ci C T N hc kk hkN) (hfit ad).1 (hfit ad).2 hl9 hd ?_
  intro H1 locs1 p1 d1 s1
  rw [rW_sF hk] at p1 d1
  exact k.2 ok ad H1 locs1 cells slots ls ⟨I.1, ⟨p1, d1⟩, wfM_sF I.2.2.1 hs.1, I.2.2.2.1, s1, I.2.2.2.2.2⟩ hs.2.2
theorem ew_iaload {a : Nat} {i : Int32} (j : Nat) (hd : decode Y.2.1 pc = .ok (.iaload, 1)) (hk : mK M a = 0) (hi : i = nI j) (hj : j < mN M a) (k : EW Y g X Z (pc + 1) L (.int (mI M a j) :: st) M) : EW Y g X Z pc L (.int i :: .ref a :: st) M := by
  refine ⟨k.1, fun ok ad H locs cells slots ls I hs => ?_⟩
  obtain ⟨hx, hb, hml, hown, hr, hlk, hEx, hnm, hst, hF, hg0, -⟩ := id ok
  subst hi
  have ha : a < mS M := hs.2.1
  have hn : mN M a < 2 ^ 31 := I.2.2.1.2 a
  have he : (rW g ad M)[a]? = some (ad a, .inl (g.2.2.1.1, mN M a, .inl (mI M a))) := by rw [rW_get ha, rE_0 hk]
  refine va_iald hx hb hF.2.2.1 I.2.1.1 a 0 he rfl (vp_in_nI hj hn) hd ?_
  rw [nI_clamp (Nat.lt_trans hj hn)]
  exact k.2 ok ad H locs cells slots ls I ⟨trivial, hs.2.2⟩
theorem rW_sI0 {ad : Nat → Nat} {a j : Nat} {x : Int32} (hk : mK M a = 0) : (rW g ad M).set a (ad a, .inl (g.2.2.1.1, mN M a, .inl (upd (mI M a) j x))) = rW g ad (sI M a j x) := by
  have e : rE g ad (sI M a j x) a = .inl (g.2.2.1.1, mN M a, .inl (upd (mI M a) j x)) := by
    rw [rE_0 (M := sI M a j x) hk]
    show (.inl (g.2.2.1.1, mN M a, .inl (up2 (mI M) a j x a)) : va_E) = _
    rw [up2_I]
  rw [← e]
  exact rW_set rfl (fun i hi => rE_congr rfl rfl (up2_ne hi) rfl rfl)
theorem ew_iastore {a : Nat} {i : Int32} {x : Int32} (j : Nat) (hd : decode Y.2.1 pc = .ok (.iastore, 1)) (hk : mK M a = 0) (hi : i = nI j) (hj : j < mN M a) (k : EW Y g X Z (pc + 1) L st (sI M a j (x))) : EW Y g X Z pc L (.int x :: .int i :: .ref a :: st) M := by
  refine ⟨k.1, fun ok ad H locs cells slots ls I hs => ?_⟩
  obtain ⟨hx, hb, hml, hown, hr, hlk, hEx, hnm, hst, hF, hg0, -⟩ := id ok
  subst hi
  have ha : a < mS M := hs.2.2.1
  have hn : mN M a < 2 ^ 31 := I.2.2.1.2 a
  have he : (rW g ad M)[a]? = some (ad a, .inl (g.2.2.1.1, mN M a, .inl (mI M a))) := by rw [rW_get ha, rE_0 hk]
  refine va_iast hx hb hF.2.2.1 I.2.1.1 I.2.1.2 I.2.2.2.2.1 a 0 he rfl (vp_in_nI hj hn) hd ?_
  rw [nI_clamp (Nat.lt_trans hj hn), rW_sI0 hk]
  intro H1 locs1 p1 d1 s1
  exact k.2 ok ad H1 locs1 cells slots ls ⟨I.1, ⟨p1, d1⟩, I.2.2.1, I.2.2.2.1, s1, I.2.2.2.2.2⟩ hs.2.2.2
theorem ew_zaload {a : Nat} {i : Int32} (j : Nat) (hd : decode Y.2.1 pc = .ok (.baload, 1)) (hk : mK M a = 1) (hi : i = nI j) (hj : j < mN M a) (k : EW Y g X Z (pc + 1) L (.int (mI M a j) :: st) M) : EW Y g X Z pc L (.int i :: .ref a :: st) M := by
  refine ⟨k.1, fun ok ad H locs cells slots ls I hs => ?_⟩
  obtain ⟨hx, hb, hml, hown, hr, hlk, hEx, hnm, hst, hF, hg0, -⟩ := id ok
  subst hi
  have ha : a < mS M := hs.2.1
  have hn : mN M a < 2 ^ 31 := I.2.2.1.2 a
  have he : (rW g ad M)[a]? = some (ad a, .inl (g.2.2.1.2.1, mN M a, .inl (mI M a))) := by rw [rW_get ha, rE_1 hk]
  refine va_zald hx hb hF.2.2.1 I.2.1.1 a 1 he rfl (vp_in_nI hj hn) hd ?_
  rw [nI_clamp (Nat.lt_trans hj hn)]
  exact k.2 ok ad H locs cells slots ls I ⟨trivial, hs.2.2⟩
theorem rW_sI1 {ad : Nat → Nat} {a j : Nat} {x : Int32} (hk : mK M a = 1) : (rW g ad M).set a (ad a, .inl (g.2.2.1.2.1, mN M a, .inl (upd (mI M a) j x))) = rW g ad (sI M a j x) := by
  have e : rE g ad (sI M a j x) a = .inl (g.2.2.1.2.1, mN M a, .inl (upd (mI M a) j x)) := by
    rw [rE_1 (M := sI M a j x) hk]
    show (.inl (g.2.2.1.2.1, mN M a, .inl (up2 (mI M) a j x a)) : va_E) = _
    rw [up2_I]
  rw [← e]
  exact rW_set rfl (fun i hi => rE_congr rfl rfl (up2_ne hi) rfl rfl)
theorem ew_zastore {a : Nat} {i : Int32} {x : Int32} (j : Nat) (hd : decode Y.2.1 pc = .ok (.bastore, 1)) (hk : mK M a = 1) (hi : i = nI j) (hj : j < mN M a) (k : EW Y g X Z (pc + 1) L st (sI M a j (vp_nar .boolean x))) : EW Y g X Z pc L (.int x :: .int i :: .ref a :: st) M := by
  refine ⟨k.1, fun ok ad H locs cells slots ls I hs => ?_⟩
  obtain ⟨hx, hb, hml, hown, hr, hlk, hEx, hnm, hst, hF, hg0, -⟩ := id ok
  subst hi
  have ha : a < mS M := hs.2.2.1
  have hn : mN M a < 2 ^ 31 := I.2.2.1.2 a
  have he : (rW g ad M)[a]? = some (ad a, .inl (g.2.2.1.2.1, mN M a, .inl (mI M a))) := by rw [rW_get ha, rE_1 hk]
  refine va_zast hx hb hF.2.2.1 I.2.1.1 I.2.1.2 I.2.2.2.2.1 a 1 he rfl (vp_in_nI hj hn) hd ?_
  rw [nI_clamp (Nat.lt_trans hj hn), rW_sI1 hk]
  intro H1 locs1 p1 d1 s1
  exact k.2 ok ad H1 locs1 cells slots ls ⟨I.1, ⟨p1, d1⟩, I.2.2.1, I.2.2.2.1, s1, I.2.2.2.2.2⟩ hs.2.2.2
theorem ew_laload {a : Nat} {i : Int32} (j : Nat) (hd : decode Y.2.1 pc = .ok (.laload, 1)) (hk : mK M a = 2) (hi : i = nI j) (hj : j < mN M a) (k : EW Y g X Z (pc + 1) L (.long (mL M a j) :: st) M) : EW Y g X Z pc L (.int i :: .ref a :: st) M := by
  refine ⟨k.1, fun ok ad H locs cells slots ls I hs => ?_⟩
  obtain ⟨hx, hb, hml, hown, hr, hlk, hEx, hnm, hst, hF, hg0, -⟩ := id ok
  subst hi
  have ha : a < mS M := hs.2.1
  have hn : mN M a < 2 ^ 31 := I.2.2.1.2 a
  have he : (rW g ad M)[a]? = some (ad a, .inl (g.2.2.1.2.2, mN M a, .inr (.inl (mL M a)))) := by rw [rW_get ha, rE_2 hk]
  refine va_lald hx hb hF.2.2.1 I.2.1.1 a 2 he rfl (vp_in_nI hj hn) hd ?_
  rw [nI_clamp (Nat.lt_trans hj hn)]
  exact k.2 ok ad H locs cells slots ls I ⟨trivial, hs.2.2⟩
theorem rW_sL2 {ad : Nat → Nat} {a j : Nat} {x : Int64} (hk : mK M a = 2) : (rW g ad M).set a (ad a, .inl (g.2.2.1.2.2, mN M a, .inr (.inl (vp_updL (mL M a) j x)))) = rW g ad (sL M a j x) := by
  have e : rE g ad (sL M a j x) a = .inl (g.2.2.1.2.2, mN M a, .inr (.inl (vp_updL (mL M a) j x))) := by
    rw [rE_2 (M := sL M a j x) hk]
    show (.inl (g.2.2.1.2.2, mN M a, .inr (.inl (up2 (mL M) a j x a))) : va_E) = _
    rw [up2_L]
  rw [← e]
  exact rW_set rfl (fun i hi => rE_congr rfl rfl rfl (up2_ne hi) rfl)
theorem ew_lastore {a : Nat} {i : Int32} {x : Int64} (j : Nat) (hd : decode Y.2.1 pc = .ok (.lastore, 1)) (hk : mK M a = 2) (hi : i = nI j) (hj : j < mN M a) (k : EW Y g X Z (pc + 1) L st (sL M a j (x))) : EW Y g X Z pc L (.long x :: .int i :: .ref a :: st) M := by
  refine ⟨k.1, fun ok ad H locs cells slots ls I hs => ?_⟩
  obtain ⟨hx, hb, hml, hown, hr, hlk, hEx, hnm, hst, hF, hg0, -⟩ := id ok
  subst hi
  have ha : a < mS M := hs.2.2.1
  have hn : mN M a < 2 ^ 31 := I.2.2.1.2 a
  have he : (rW g ad M)[a]? = some (ad a, .inl (g.2.2.1.2.2, mN M a, .inr (.inl (mL M a)))) := by rw [rW_get ha, rE_2 hk]
  refine va_last hx hb hF.2.2.1 I.2.1.1 I.2.1.2 I.2.2.2.2.1 a 2 he rfl (vp_in_nI hj hn) hd ?_
  rw [nI_clamp (Nat.lt_trans hj hn), rW_sL2 hk]
  intro H1 locs1 p1 d1 s1
  exact k.2 ok ad H1 locs1 cells slots ls ⟨I.1, ⟨p1, d1⟩, I.2.2.1, I.2.2.2.1, s1, I.2.2.2.2.2⟩ hs.2.2.2
theorem ew_alen {a : Nat} (hd : decode Y.2.1 pc = .ok (.arraylength, 1)) (hk : mK M a < 3) (k : EW Y g X Z (pc + 1) L (.int (nI (mN M a)) :: st) M) : EW Y g X Z pc L (.ref a :: st) M := by
  refine ⟨k.1, fun ok ad H locs cells slots ls I hs => ?_⟩
  obtain ⟨hx, hb, hml, hown, hr, hlk, hEx, hnm, hst, hF, hg0, -⟩ := id ok
  have ha : a < mS M := hs.1
  have K := k.2 ok ad H locs cells slots ls I ⟨trivial, hs.2⟩
  rcases (show mK M a = 0 ∨ mK M a = 1 ∨ mK M a = 2 by omega) with e | e | e
  · exact va_alen (x := (mN M a, .inl (mI M a))) hx hb hF.2.2.1 I.2.1.1 a 0 (by rw [rW_get ha, rE_0 e]) rfl rfl hd K
  · exact va_alen (x := (mN M a, .inl (mI M a))) hx hb hF.2.2.1 I.2.1.1 a 1 (by rw [rW_get ha, rE_1 e]) rfl rfl hd K
  · exact va_alen (x := (mN M a, .inr (.inl (mL M a)))) hx hb hF.2.2.1 I.2.1.1 a 2 (by rw [rW_get ha, rE_2 e]) rfl rfl hd K
theorem wfM_nA {kd n : Nat} (hw : wfM M) (hkd : kd < 3) (hn : n < 2 ^ 31) : wfM (nA M kd n) := by
  refine ⟨fun k hk h3 j => ?_, fun k => ?_⟩
  · have hk' : k < mS M + 1 := hk
    have h3' : 3 ≤ va_up (mK M) (mS M) kd k := h3
    show wfV (mS M + 1) (mF M k j)
    by_cases e : k = mS M
    · subst e
      rw [va_up_self] at h3'
      omega
    · rw [va_up_ne _ _ e] at h3'
      exact wfV_mono (Nat.le_succ _) (hw.1 k (by omega) h3' j)
  · show va_up (mN M) (mS M) n k < 2 ^ 31
    by_cases e : k = mS M
    · subst e
      rw [va_up_self]
      exact hn
    · rw [va_up_ne _ _ e]
      exact hw.2 k
theorem ad_up {ad : Nat → Nat} {n q : Nat} : ∀ k, k < n → va_up ad n q k = ad k := fun k hk => va_up_ne _ _ (Nat.ne_of_lt hk)
theorem ew_newarray_i {i : Int32} (n : Nat) (hd : decode Y.2.1 pc = .ok (.newarray .int, 2)) (hi : i = nI n) (hn : n ≤ 67108864) (k : EW Y g X Z (pc + 2) L (.ref (mS M) :: st) (nA M 0 n)) : EW Y g X Z pc L (.int i :: st) M := by
  refine ⟨⟨Nat.le_trans (Nat.le_succ _) k.1.1, Nat.le_trans (Nat.le_add_right _ _) k.1.2.1, Nat.le_trans (Nat.le_succ _) k.1.2.2⟩, fun ok ad H locs cells slots ls I hs => ?_⟩
  obtain ⟨hx, hb, hml, hown, hr, hlk, hEx, hnm, hst, hF, hg0, hfr, hlo, hRc, hRs⟩ := id ok
  have k1 : mC M + 1 ≤ mC (zf Z) := k.1.1
  have k2 : mT M + n ≤ mT (zf Z) := k.1.2.1
  have c1 := I.2.2.2.2.2.2.1
  have c2 := I.2.2.2.2.2.2.2
  subst hi
  have hn31 : n < 2 ^ 31 := by omega
  refine va_newa (atype := .int) (a0 := (n, .inl (fun _ => 0))) (N' := n) (ty := .int) hx hb (hF.word qAr_i _) rfl hF.2.2.1 I.2.1.1 I.2.1.2 I.2.2.2.2.1 (fun q hq => Nat.le_trans hg0 hq) (fun cA => rfl) (nI_pos hn31) (nI_clamp hn31) (by show n * _ ≤ _; simp [componentBytes]; omega) (by omega) (by omega) hd ?_
  intro q cA H1 hK1 p1 d1 s1
  have e1 : cA = g.2.2.1.1 := by
    have h3 := (hK1.2 3 (cA, .int) rfl).2
    have h0 := (hF.2.2.1.2 0 (g.2.2.1.1, .int) rfl).2
    exact Option.some.inj (Eq.trans (Eq.symm h3) h0)
  rw [e1] at p1 d1
  have e2 : rE g (va_up ad (mS M) q) (nA M 0 n) (mS M) = .inl (g.2.2.1.1, (n, .inl (fun _ => 0))) := by
    have hk9 : mK (nA M 0 n) (mS M) = 0 := va_up_self _ _ _
    rw [rE_0 hk9]
    have h5 : mN (nA M 0 n) (mS M) = n := va_up_self _ _ _
    have h6 : mI (nA M 0 n) (mS M) = (fun _ => 0) := va_up_self _ _ _
    rw [h5, h6]
  have e3 : rW g ad M ++ [(q, .inl (g.2.2.1.1, (n, .inl (fun _ => 0))))] = rW g (va_up ad (mS M) q) (nA M 0 n) := by
    rw [← e2]
    refine rW_push rfl (va_up_self _ _ _) (fun j hj => ⟨ad_up j hj, ?_⟩)
    rw [← rE_ext I.2.2.1 (ad_up (q := q)) hj]
    exact rE_congr (va_up_ne' hj) (va_up_ne' hj) (va_up_ne' hj) (va_up_ne' hj) rfl
  rw [e3] at p1 d1
  have K := k.2 ok (va_up ad (mS M) q) H1 locs (cells + 1) (slots + n) ls ⟨⟨Nat.le_trans I.1.1 (Nat.le_succ _), fun j hj => (ad_up j (Nat.lt_of_lt_of_le hj I.1.1)).trans (I.1.2 j hj)⟩, ⟨p1, d1⟩, wfM_nA I.2.2.1 (by decide) hn31, wfL_mono (Nat.le_succ _) I.2.2.2.1, s1, by rw [rL_ext (ad_up (q := q)) I.2.2.2.1]; exact I.2.2.2.2.2.1, by show cells + 1 + _ = mC M + 1; omega, by show slots + n + _ = mT M + n; omega⟩ ⟨Nat.lt_succ_self _, wfS_mono (Nat.le_succ _) hs.2⟩
  rw [List.map_cons, rS_ext (ad_up (q := q)) hs.2, show rV g (va_up ad (mS M) q) (.ref (mS M)) = .ref q from congrArg Value.ref (va_up_self _ _ _)] at K
  exact K
theorem ew_newarray_z {i : Int32} (n : Nat) (hd : decode Y.2.1 pc = .ok (.newarray .boolean, 2)) (hi : i = nI n) (hn : n ≤ 67108864) (k : EW Y g X Z (pc + 2) L (.ref (mS M) :: st) (nA M 1 n)) : EW Y g X Z pc L (.int i :: st) M := by
  refine ⟨⟨Nat.le_trans (Nat.le_succ _) k.1.1, Nat.le_trans (Nat.le_add_right _ _) k.1.2.1, Nat.le_trans (Nat.le_succ _) k.1.2.2⟩, fun ok ad H locs cells slots ls I hs => ?_⟩
  obtain ⟨hx, hb, hml, hown, hr, hlk, hEx, hnm, hst, hF, hg0, hfr, hlo, hRc, hRs⟩ := id ok
  have k1 : mC M + 1 ≤ mC (zf Z) := k.1.1
  have k2 : mT M + n ≤ mT (zf Z) := k.1.2.1
  have c1 := I.2.2.2.2.2.2.1
  have c2 := I.2.2.2.2.2.2.2
  subst hi
  have hn31 : n < 2 ^ 31 := by omega
  refine va_newa (atype := .boolean) (a0 := (n, .inl (fun _ => 0))) (N' := n) (ty := .boolean) hx hb (hF.word qAr_z _) rfl hF.2.2.1 I.2.1.1 I.2.1.2 I.2.2.2.2.1 (fun q hq => Nat.le_trans hg0 hq) (fun cA => rfl) (nI_pos hn31) (nI_clamp hn31) (by show n * _ ≤ _; simp [componentBytes]; omega) (by omega) (by omega) hd ?_
  intro q cA H1 hK1 p1 d1 s1
  have e1 : cA = g.2.2.1.2.1 := by
    have h3 := (hK1.2 3 (cA, .boolean) rfl).2
    have h0 := (hF.2.2.1.2 1 (g.2.2.1.2.1, .boolean) rfl).2
    exact Option.some.inj (Eq.trans (Eq.symm h3) h0)
  rw [e1] at p1 d1
  have e2 : rE g (va_up ad (mS M) q) (nA M 1 n) (mS M) = .inl (g.2.2.1.2.1, (n, .inl (fun _ => 0))) := by
    have hk9 : mK (nA M 1 n) (mS M) = 1 := va_up_self _ _ _
    rw [rE_1 hk9]
    have h5 : mN (nA M 1 n) (mS M) = n := va_up_self _ _ _
    have h6 : mI (nA M 1 n) (mS M) = (fun _ => 0) := va_up_self _ _ _
    rw [h5, h6]
  have e3 : rW g ad M ++ [(q, .inl (g.2.2.1.2.1, (n, .inl (fun _ => 0))))] = rW g (va_up ad (mS M) q) (nA M 1 n) := by
    rw [← e2]
    refine rW_push rfl (va_up_self _ _ _) (fun j hj => ⟨ad_up j hj, ?_⟩)
    rw [← rE_ext I.2.2.1 (ad_up (q := q)) hj]
    exact rE_congr (va_up_ne' hj) (va_up_ne' hj) (va_up_ne' hj) (va_up_ne' hj) rfl
  rw [e3] at p1 d1
  have K := k.2 ok (va_up ad (mS M) q) H1 locs (cells + 1) (slots + n) ls ⟨⟨Nat.le_trans I.1.1 (Nat.le_succ _), fun j hj => (ad_up j (Nat.lt_of_lt_of_le hj I.1.1)).trans (I.1.2 j hj)⟩, ⟨p1, d1⟩, wfM_nA I.2.2.1 (by decide) hn31, wfL_mono (Nat.le_succ _) I.2.2.2.1, s1, by rw [rL_ext (ad_up (q := q)) I.2.2.2.1]; exact I.2.2.2.2.2.1, by show cells + 1 + _ = mC M + 1; omega, by show slots + n + _ = mT M + n; omega⟩ ⟨Nat.lt_succ_self _, wfS_mono (Nat.le_succ _) hs.2⟩
  rw [List.map_cons, rS_ext (ad_up (q := q)) hs.2, show rV g (va_up ad (mS M) q) (.ref (mS M)) = .ref q from congrArg Value.ref (va_up_self _ _ _)] at K
  exact K
theorem ew_newarray_l {i : Int32} (n : Nat) (hd : decode Y.2.1 pc = .ok (.newarray .long, 2)) (hi : i = nI n) (hn : n ≤ 67108864) (k : EW Y g X Z (pc + 2) L (.ref (mS M) :: st) (nA M 2 n)) : EW Y g X Z pc L (.int i :: st) M := by
  refine ⟨⟨Nat.le_trans (Nat.le_succ _) k.1.1, Nat.le_trans (Nat.le_add_right _ _) k.1.2.1, Nat.le_trans (Nat.le_succ _) k.1.2.2⟩, fun ok ad H locs cells slots ls I hs => ?_⟩
  obtain ⟨hx, hb, hml, hown, hr, hlk, hEx, hnm, hst, hF, hg0, hfr, hlo, hRc, hRs⟩ := id ok
  have k1 : mC M + 1 ≤ mC (zf Z) := k.1.1
  have k2 : mT M + n ≤ mT (zf Z) := k.1.2.1
  have c1 := I.2.2.2.2.2.2.1
  have c2 := I.2.2.2.2.2.2.2
  subst hi
  have hn31 : n < 2 ^ 31 := by omega
  refine va_newa (atype := .long) (a0 := (n, .inr (.inl (fun _ => 0)))) (N' := n) (ty := .long) hx hb (hF.word qAr_l _) rfl hF.2.2.1 I.2.1.1 I.2.1.2 I.2.2.2.2.1 (fun q hq => Nat.le_trans hg0 hq) (fun cA => rfl) (nI_pos hn31) (nI_clamp hn31) (by show n * _ ≤ _; simp [componentBytes]; omega) (by omega) (by omega) hd ?_
  intro q cA H1 hK1 p1 d1 s1
  have e1 : cA = g.2.2.1.2.2 := by
    have h3 := (hK1.2 3 (cA, .long) rfl).2
    have h0 := (hF.2.2.1.2 2 (g.2.2.1.2.2, .long) rfl).2
    exact Option.some.inj (Eq.trans (Eq.symm h3) h0)
  rw [e1] at p1 d1
  have e2 : rE g (va_up ad (mS M) q) (nA M 2 n) (mS M) = .inl (g.2.2.1.2.2, (n, .inr (.inl (fun _ => 0)))) := by
    have hk9 : mK (nA M 2 n) (mS M) = 2 := va_up_self _ _ _
    rw [rE_2 hk9]
    have h5 : mN (nA M 2 n) (mS M) = n := va_up_self _ _ _
    have h6 : mL (nA M 2 n) (mS M) = (fun _ => 0) := va_up_self _ _ _
    rw [h5, h6]
  have e3 : rW g ad M ++ [(q, .inl (g.2.2.1.2.2, (n, .inr (.inl (fun _ => 0)))))] = rW g (va_up ad (mS M) q) (nA M 2 n) := by
    rw [← e2]
    refine rW_push rfl (va_up_self _ _ _) (fun j hj => ⟨ad_up j hj, ?_⟩)
    rw [← rE_ext I.2.2.1 (ad_up (q := q)) hj]
    exact rE_congr (va_up_ne' hj) (va_up_ne' hj) (va_up_ne' hj) (va_up_ne' hj) rfl
  rw [e3] at p1 d1
  have K := k.2 ok (va_up ad (mS M) q) H1 locs (cells + 1) (slots + n) ls ⟨⟨Nat.le_trans I.1.1 (Nat.le_succ _), fun j hj => (ad_up j (Nat.lt_of_lt_of_le hj I.1.1)).trans (I.1.2 j hj)⟩, ⟨p1, d1⟩, wfM_nA I.2.2.1 (by decide) hn31, wfL_mono (Nat.le_succ _) I.2.2.2.1, s1, by rw [rL_ext (ad_up (q := q)) I.2.2.2.1]; exact I.2.2.2.2.2.1, by show cells + 1 + _ = mC M + 1; omega, by show slots + n + _ = mT M + n; omega⟩ ⟨Nat.lt_succ_self _, wfS_mono (Nat.le_succ _) hs.2⟩
  rw [List.map_cons, rS_ext (ad_up (q := q)) hs.2, show rV g (va_up ad (mS M) q) (.ref (mS M)) = .ref q from congrArg Value.ref (va_up_self _ _ _)] at K
  exact K
theorem rV_df (ad : Nat → Nat) (ty : FieldType) : rV g ad (defaultValue ty) = defaultValue ty := by cases ty <;> rfl
theorem wfV_df (n : Nat) (ty : FieldType) : wfV n (defaultValue ty) := by cases ty <;> trivial
theorem wfM_nO {ci : Nat} (hw : wfM M) : wfM (nO M ci) := by
  refine ⟨fun k hk h3 j => ?_, hw.2⟩
  have hk' : k < mS M + 1 := hk
  have h3' : 3 ≤ va_up (mK M) (mS M) (ci + 3) k := h3
  show wfV (mS M + 1) (va_up (mF M) (mS M) (qDf ci) k j)
  by_cases e : k = mS M
  · subst e
    rw [va_up_self]
    exact wfV_df _ _
  · rw [va_up_ne _ _ e] at h3' ⊢
    exact wfV_mono (Nat.le_succ _) (hw.1 k (by omega) h3' j)
theorem ew_new {ix : Nat} (ci : Nat) (hd : decode Y.2.1 pc = .ok (.new ix, 3)) (hf : qNw Y.1.cls ix ci) (k : EW Y g X Z (pc + 3) L (.ref (mS M) :: st) (nO M ci)) : EW Y g X Z pc L st M := by
  refine ⟨⟨Nat.le_trans (Nat.le_succ _) k.1.1, Nat.le_trans (Nat.le_add_right _ _) k.1.2.1, Nat.le_trans (Nat.le_succ _) k.1.2.2⟩, fun ok ad H locs cells slots ls I hs => ?_⟩
  obtain ⟨C, T, N, hc, hcl, hinst, hini⟩ := hf
  obtain ⟨hx, hb, hml, hown, hr, hlk, hEx, hnm, hst, hF, hg0, hfr, hlo, hRc, hRs⟩ := id ok
  have hN : qNf ci = N := by simp [qNf, hc]
  have k1 : mC M + 1 ≤ mC (zf Z) := k.1.1
  have k2 : mT M + qNf ci ≤ mT (zf Z) := k.1.2.1
  have c1 := I.2.2.2.2.2.2.1
  have c2 := I.2.2.2.2.2.2.2
  have hts : ∀ w ∈ qTT, w.before (xa X) (xs X) = true := fun w hw => hF.word hw _
  refine va_new (ci := ci) (fs := (List.range (qNf ci)).map (fun j => defaultValue (qTy ci j))) (C := C) (T := T) (N := N) hx hb hts (qCl_ws ci C T N hc) (qTy ci) (qTy_ok ci C T N hc) hown (hts _ hcl) (hts _ hinst) (hts _ hini) hF.2.2.1 I.2.1.1 I.2.1.2 I.2.2.2.2.1 (fun q hq => Nat.le_trans hg0 hq) hc (fun j hj => by simp [vp_V, List.getD, hN, hj]) (by omega) (by omega) hd ?_
  intro q H1 p1 d1 s1
  have e2 : rE g (va_up ad (mS M) q) (nO M ci) (mS M) = .inr (ci, (List.range (qNf ci)).map (fun j => defaultValue (qTy ci j))) := by
    have hk9 : mK (nO M ci) (mS M) = ci + 3 := va_up_self _ _ _
    rw [rE_3 hk9]
    have h6 : mF (nO M ci) (mS M) = qDf ci := va_up_self _ _ _
    rw [h6]
    congr 2
    apply List.map_congr_left
    intro j _
    exact rV_df _ _
  have e3 : rW g ad M ++ [(q, .inr (ci, (List.range (qNf ci)).map (fun j => defaultValue (qTy ci j))))] = rW g (va_up ad (mS M) q) (nO M ci) := by
    rw [← e2]
    refine rW_push rfl (va_up_self _ _ _) (fun j hj => ⟨ad_up j hj, ?_⟩)
    rw [← rE_ext I.2.2.1 (ad_up (q := q)) hj]
    exact rE_congr (va_up_ne' hj) rfl rfl rfl (va_up_ne' hj)
  rw [e3] at p1 d1
  have K := k.2 ok (va_up ad (mS M) q) H1 locs (cells + 1) (slots + N) ls ⟨⟨Nat.le_trans I.1.1 (Nat.le_succ _), fun j hj => (ad_up j (Nat.lt_of_lt_of_le hj I.1.1)).trans (I.1.2 j hj)⟩, ⟨p1, d1⟩, wfM_nO I.2.2.1, wfL_mono (Nat.le_succ _) I.2.2.2.1, s1, by rw [rL_ext (ad_up (q := q)) I.2.2.2.1]; exact I.2.2.2.2.2.1, by show cells + 1 + _ = mC M + 1; omega, by show slots + N + _ = mT M + qNf ci; omega⟩ ⟨Nat.lt_succ_self _, wfS_mono (Nat.le_succ _) hs⟩
  rw [List.map_cons, rS_ext (ad_up (q := q)) hs, show rV g (va_up ad (mS M) q) (.ref (mS M)) = .ref q from congrArg Value.ref (va_up_self _ _ _)] at K
  exact K
theorem ew_ireturn {v : Int32} (hd : decode Y.2.1 pc = .ok (.ireturn, 1)) (hy : Y.2.2.2 = some .int) (hz : zr Z = .inl (some (.int v))) (hm : zf Z = M) : EW Y g X Z pc L [.int v] M := by
  refine ⟨by rw [hm]; exact ⟨Nat.le_refl _, Nat.le_refl _, Nat.le_refl _⟩, fun ok ad H locs cells slots ls I hs => ?_⟩
  obtain ⟨hx, hb, hml, hown, hr, hlk, hEx, hnm, hst, hF, hg0, hfr, hlo, hRc, hRs⟩ := id ok
  have c1 := I.2.2.2.2.2.2.1
  have c2 := I.2.2.2.2.2.2.2
  have e1 : cells = mC (zf Z) - mC (z0 Z) := by rw [hm]; omega
  have e2 : slots = mT (zf Z) - mT (z0 Z) := by rw [hm]; omega
  have K := W.iret (Qc := fun _ st o t => (∃ (v : Option Value) (ad : Nat → Nat), zr Z = .inl v ∧ o = .returned (v.map (rV g ad)) ∧ (∀ k, k < mS (z0 Z) → ad k = za Z k) ∧ qR g ad (zf Z) t.heap ∧ wfM (zf Z) ∧ wfS (mS (zf Z)) v.toList) ∧ va_F (qA g) st t) (free := qA g) (p := xp X) (l := xl X) (e := xe X) (R := xR X) (s := xs X) (m := xm X) (args := xa X) (below := xb X) (meth := xh X) (c := xc X) (H := H) (locs := locs) (cells := cells) (slots := slots) (ls := ls) hx hb (hr.trans hy) (fun t ht hW => ⟨⟨some (.int v), ad, hz, rfl, I.1.2, by rw [ht, hm]; exact I.2.1, by rw [hm]; exact I.2.2.1, by rw [hm]; exact ⟨trivial, trivial⟩⟩, I.2.2.2.2.1.F ht⟩) I.2.2.2.2.1.2.2 hd hlk
  intro T hT X0
  obtain ⟨t, a1, o, b1, b2, b3, b4⟩ := K T hT X0
  refine ⟨t, a1, o, b1, b2, Or.inl ⟨b3.1, b3.2, ?_⟩⟩
  rw [← e1, ← e2]
  exact b4
theorem ew_zreturn {v : Int32} (hd : decode Y.2.1 pc = .ok (.ireturn, 1)) (hy : Y.2.2.2 = some .boolean) (hz : zr Z = .inl (some (.int v))) (hm : zf Z = M) (hb1 : narrow .boolean (.int v) = .int v) : EW Y g X Z pc L [.int v] M := by
  refine ⟨by rw [hm]; exact ⟨Nat.le_refl _, Nat.le_refl _, Nat.le_refl _⟩, fun ok ad H locs cells slots ls I hs => ?_⟩
  obtain ⟨hx, hb, hml, hown, hr, hlk, hEx, hnm, hst, hF, hg0, hfr, hlo, hRc, hRs⟩ := id ok
  have c1 := I.2.2.2.2.2.2.1
  have c2 := I.2.2.2.2.2.2.2
  have e1 : cells = mC (zf Z) - mC (z0 Z) := by rw [hm]; omega
  have e2 : slots = mT (zf Z) - mT (z0 Z) := by rw [hm]; omega
  have K := W.zret (Qc := fun _ st o t => (∃ (v : Option Value) (ad : Nat → Nat), zr Z = .inl v ∧ o = .returned (v.map (rV g ad)) ∧ (∀ k, k < mS (z0 Z) → ad k = za Z k) ∧ qR g ad (zf Z) t.heap ∧ wfM (zf Z) ∧ wfS (mS (zf Z)) v.toList) ∧ va_F (qA g) st t) (free := qA g) (p := xp X) (l := xl X) (e := xe X) (R := xR X) (s := xs X) (m := xm X) (args := xa X) (below := xb X) (meth := xh X) (c := xc X) (H := H) (locs := locs) (cells := cells) (slots := slots) (ls := ls) hx hb (hr.trans hy) hb1 (fun t ht hW => ⟨⟨some (.int v), ad, hz, rfl, I.1.2, by rw [ht, hm]; exact I.2.1, by rw [hm]; exact I.2.2.1, by rw [hm]; exact ⟨trivial, trivial⟩⟩, I.2.2.2.2.1.F ht⟩) I.2.2.2.2.1.2.2 hd hlk
  intro T hT X0
  obtain ⟨t, a1, o, b1, b2, b3, b4⟩ := K T hT X0
  refine ⟨t, a1, o, b1, b2, Or.inl ⟨b3.1, b3.2, ?_⟩⟩
  rw [← e1, ← e2]
  exact b4
theorem ew_lreturn {v : Int64} (hd : decode Y.2.1 pc = .ok (.lreturn, 1)) (hy : Y.2.2.2 = some .long) (hz : zr Z = .inl (some (.long v))) (hm : zf Z = M) : EW Y g X Z pc L [.long v] M := by
  refine ⟨by rw [hm]; exact ⟨Nat.le_refl _, Nat.le_refl _, Nat.le_refl _⟩, fun ok ad H locs cells slots ls I hs => ?_⟩
  obtain ⟨hx, hb, hml, hown, hr, hlk, hEx, hnm, hst, hF, hg0, hfr, hlo, hRc, hRs⟩ := id ok
  have c1 := I.2.2.2.2.2.2.1
  have c2 := I.2.2.2.2.2.2.2
  have e1 : cells = mC (zf Z) - mC (z0 Z) := by rw [hm]; omega
  have e2 : slots = mT (zf Z) - mT (z0 Z) := by rw [hm]; omega
  have K := W.lret (Qc := fun _ st o t => (∃ (v : Option Value) (ad : Nat → Nat), zr Z = .inl v ∧ o = .returned (v.map (rV g ad)) ∧ (∀ k, k < mS (z0 Z) → ad k = za Z k) ∧ qR g ad (zf Z) t.heap ∧ wfM (zf Z) ∧ wfS (mS (zf Z)) v.toList) ∧ va_F (qA g) st t) (free := qA g) (p := xp X) (l := xl X) (e := xe X) (R := xR X) (s := xs X) (m := xm X) (args := xa X) (below := xb X) (meth := xh X) (c := xc X) (H := H) (locs := locs) (cells := cells) (slots := slots) (ls := ls) hx hb (hr.trans hy) (fun t ht hW => ⟨⟨some (.long v), ad, hz, rfl, I.1.2, by rw [ht, hm]; exact I.2.1, by rw [hm]; exact I.2.2.1, by rw [hm]; exact ⟨trivial, trivial⟩⟩, I.2.2.2.2.1.F ht⟩) I.2.2.2.2.1.2.2 hd hlk
  intro T hT X0
  obtain ⟨t, a1, o, b1, b2, b3, b4⟩ := K T hT X0
  refine ⟨t, a1, o, b1, b2, Or.inl ⟨b3.1, b3.2, ?_⟩⟩
  rw [← e1, ← e2]
  exact b4
theorem ew_return (hd : decode Y.2.1 pc = .ok (.return_, 1)) (hy : Y.2.2.2 = none) (hz : zr Z = .inl (none)) (hm : zf Z = M) : EW Y g X Z pc L [] M := by
  refine ⟨by rw [hm]; exact ⟨Nat.le_refl _, Nat.le_refl _, Nat.le_refl _⟩, fun ok ad H locs cells slots ls I hs => ?_⟩
  obtain ⟨hx, hb, hml, hown, hr, hlk, hEx, hnm, hst, hF, hg0, hfr, hlo, hRc, hRs⟩ := id ok
  have c1 := I.2.2.2.2.2.2.1
  have c2 := I.2.2.2.2.2.2.2
  have e1 : cells = mC (zf Z) - mC (z0 Z) := by rw [hm]; omega
  have e2 : slots = mT (zf Z) - mT (z0 Z) := by rw [hm]; omega
  have K := W.vret (Qc := fun _ st o t => (∃ (v : Option Value) (ad : Nat → Nat), zr Z = .inl v ∧ o = .returned (v.map (rV g ad)) ∧ (∀ k, k < mS (z0 Z) → ad k = za Z k) ∧ qR g ad (zf Z) t.heap ∧ wfM (zf Z) ∧ wfS (mS (zf Z)) v.toList) ∧ va_F (qA g) st t) (free := qA g) (p := xp X) (l := xl X) (e := xe X) (R := xR X) (s := xs X) (m := xm X) (args := xa X) (below := xb X) (meth := xh X) (c := xc X) (H := H) (locs := locs) (cells := cells) (slots := slots) (ls := ls) hx hb (hr.trans hy) (fun t ht hW => ⟨⟨none, ad, hz, rfl, I.1.2, by rw [ht, hm]; exact I.2.1, by rw [hm]; exact I.2.2.1, by rw [hm]; exact trivial⟩, I.2.2.2.2.1.F ht⟩) I.2.2.2.2.1.2.2 hd hlk
  intro T hT X0
  obtain ⟨t, a1, o, b1, b2, b3, b4⟩ := K T hT X0
  refine ⟨t, a1, o, b1, b2, Or.inl ⟨b3.1, b3.2, ?_⟩⟩
  rw [← e1, ← e2]
  exact b4
end EWH
/-- a contract: from M with these arguments the method comes to res, the memory then is Mf -/
def CT (Y : qY) (fr lo : Nat) (As : List Value) (M : PM) (res : Option Value ⊕ String) (Mf : PM) : Prop :=
  (∀ (_ : qG) (_ : qX), mC M ≤ mC Mf ∧ mT M ≤ mT Mf ∧ mS M ≤ mS Mf) ∧ ∀ (l : Launch) (g : qG) (ad : Nat → Nat), l.stackTraces = false → wfM M → wfS (mS M) As → MetFree l Y.1 (headSpec [Cond.code Y.1 Y.2.1 Y.2.2.1 Y.2.2.2] { frames := fr, cells := mC Mf - mC M, slots := mT Mf - mT M, locals := lo }) (va_Pc (As.map (rV g ad)) (fun U => g.1 ≤ U.heap.size ∧ qF g U U.heap ∧ qR g ad M U.heap)) (fun _ _ _ _ _ => True) (fun _ st o t => qEd g ad M res Mf st o t)
/-- the same of a method with handlers: from M with these arguments the method comes to res, the memory then is Mf -/
def CTw (Y : qY) (fr lo : Nat) (As : List Value) (M : PM) (res : Option Value ⊕ String) (Mf : PM) : Prop :=
  (∀ (_ : qG) (_ : qX), mC M ≤ mC Mf ∧ mT M ≤ mT Mf ∧ mS M ≤ mS Mf) ∧ ∀ (l : Launch) (g : qG) (ad : Nat → Nat), l.stackTraces = false → wfM M → wfS (mS M) As → MetFree l Y.1 (headSpec [Cond.codeWith Y.1 Y.2.1 Y.2.2.1 Y.2.2.2 (qHd Y)] { frames := fr, cells := mC Mf - mC M, slots := mT Mf - mT M, locals := lo }) (va_Pc (As.map (rV g ad)) (fun U => g.1 ≤ U.heap.size ∧ qF g U U.heap ∧ qR g ad M U.heap)) (fun _ _ _ _ _ => True) (fun _ st o t => qEd g ad M res Mf st o t)
theorem lv_args_r (g : qG) (ad : Nat → Nat) : ∀ (As : List Value) (i : Nat), lv_args i (As.map (rV g ad)) = rL g ad (lv_args i As) := by
  intro As
  induction As with
  | nil => intro i; rfl
  | cons v t ih =>
    intro i
    simp only [List.map_cons, lv_args, rV_cat, ih, rL]
theorem lg_sl_r (g : qG) (ad : Nat → Nat) : ∀ (As : List Value), (lg_sl (As.map (rV g ad))).length = (lg_sl As).length := by
  intro As
  induction As with
  | nil => rfl
  | cons v t ih =>
    have h1 : ∀ (u : Value) (r : List Value), (lg_sl (u :: r)).length = (if u.category = 2 then 2 else 1) + (lg_sl r).length := by
      intro u r
      by_cases h : u.category = 2 <;> simp [lg_sl, h] <;> omega
    rw [List.map_cons, h1, h1, rV_cat, ih]
theorem wf_args (n : Nat) : ∀ (As : List Value) (i : Nat), wfS n As → wfL n (lv_args i As) := by
  intro As
  induction As with
  | nil => intro i _ q hq; cases hq
  | cons v t ih =>
    intro i h q hq
    rcases List.mem_cons.mp hq with e | e
    · rw [e]; exact h.1
    · exact ih _ h.2 q e
theorem CT_of {Y : qY} {fr lo : Nat} {As : List Value} {M Mf : PM} {res : Option Value ⊕ String} (hp : plainName Y.1.cls = true) (hn : (lg_sl As).length ≤ Y.2.2.1) (h0 : qHd Y = [])
    (h : ∀ (g : qG) (X : qX) (ad0 : Nat → Nat), EW Y g X (ad0, M, res, Mf, fr, lo) 0 (lv_args 0 As) [] M) : CT Y fr lo As M res Mf := by
  refine ⟨fun g X => (h g X (fun j => j)).1, fun l g ad hst hwM hwA => ?_⟩
  refine MetFree.of_bodyS (code := Y.2.1) (maxLocals := Y.2.2.1) (ret := Y.2.2.2) hp ?_ ?_
  · intro args s m hh hn9
    obtain ⟨meth, c, h1, h2, h3, h4, h5, h6, -, -⟩ := Cond.code_spec hn9 (atoms_spec (ws := [Cond.code Y.1 Y.2.1 Y.2.2.1 Y.2.2.2]) hh _ (List.mem_singleton.mpr rfl))
    exact ⟨meth, c, h1, h2, h3, h4, h5, h6⟩
  · intro p e s m args below meth c s₁ B hml hv _
    obtain ⟨rfl, hg, hF, hR⟩ := hv
    have hh0 : s₁.heap = s.heap := by rw [B.state]; rfl
    have hEx : c.exceptionTable.toList.map (fun h => (h.startPc, h.endPc, h.handlerPc, h.catchType)) = qHd Y := by
      obtain ⟨meth9, c9, h1, h2, -, -, -, -, h7, -⟩ := Cond.code_spec B.named (atoms_spec (ws := [Cond.code Y.1 Y.2.1 Y.2.2.1 Y.2.2.2]) B.pre _ (List.mem_singleton.mpr rfl))
      cases Option.some.inj (h1.symm.trans B.method)
      cases Option.some.inj (h2.symm.trans (Stand.of_body B).code)
      rw [Array.isEmpty_iff.mp h7, h0]
      rfl
    have hl := lv_entry (As.map (rV g ad)) (n := Y.2.2.1) (by rw [lg_sl_r]; exact hn)
    rw [lv_args_r] at hl
    have K := (h g (p, l, e, ({ frames := fr, cells := mC Mf - mC M, slots := mT Mf - mT M, locals := lo } : Room), s, m, (As.map (rV g ad)).toArray, below, meth, c) ad).2 ⟨B.exec, B.bytes, hml, findClass_of_methodNamed B.named, B.returns, B.notSynchronized, hEx, (name_of_methodNamed B.named B.method).1, hst, hF, hg, Nat.le_refl _, Nat.le_refl _, Nat.le_refl _, Nat.le_refl _⟩ ad s.heap [] 0 0 _ ⟨⟨Nat.le_refl _, fun _ _ => rfl⟩, hR, hwM, wf_args _ As 0 hwA, va_S.rf, hl, Nat.zero_add _, Nat.zero_add _⟩ trivial
    rw [lg_entry_eq]
    obtain ⟨t, a1, o, b1, b2, b3⟩ := K s₁ hh0 (Stand.of_body B)
    exact ⟨t, o, a1, b1, b2, b3⟩
theorem CTw_of {Y : qY} {fr lo : Nat} {As : List Value} {M Mf : PM} {res : Option Value ⊕ String} (hp : plainName Y.1.cls = true) (hn : (lg_sl As).length ≤ Y.2.2.1)
    (h : ∀ (g : qG) (X : qX) (ad0 : Nat → Nat), EW Y g X (ad0, M, res, Mf, fr, lo) 0 (lv_args 0 As) [] M) : CTw Y fr lo As M res Mf := by
  refine ⟨fun g X => (h g X (fun j => j)).1, fun l g ad hst hwM hwA => ?_⟩
  refine MetFree.of_bodyS (code := Y.2.1) (maxLocals := Y.2.2.1) (ret := Y.2.2.2) hp ?_ ?_
  · intro args s m hh hn9
    obtain ⟨m9, meth, c, hn8, h1, h2, h3, h4, -, h5, h6, -⟩ := Cond.codeWith_spec (atoms_spec (ws := [Cond.codeWith Y.1 Y.2.1 Y.2.2.1 Y.2.2.2 (qHd Y)]) hh _ (List.mem_singleton.mpr rfl))
    cases Option.some.inj (hn9.symm.trans hn8)
    exact ⟨meth, c, h1, h2, h3, h4, h5, h6⟩
  · intro p e s m args below meth c s₁ B hml hv _
    obtain ⟨rfl, hg, hF, hR⟩ := hv
    have hh0 : s₁.heap = s.heap := by rw [B.state]; rfl
    have hEx : c.exceptionTable.toList.map (fun h => (h.startPc, h.endPc, h.handlerPc, h.catchType)) = qHd Y := by
      obtain ⟨m9, meth9, c9, hn8, h1, h2, -, -, h7, -⟩ := Cond.codeWith_spec (atoms_spec (ws := [Cond.codeWith Y.1 Y.2.1 Y.2.2.1 Y.2.2.2 (qHd Y)]) B.pre _ (List.mem_singleton.mpr rfl))
      cases Option.some.inj (hn8.symm.trans B.named)
      cases Option.some.inj (h1.symm.trans B.method)
      cases Option.some.inj (h2.symm.trans (Stand.of_body B).code)
      exact h7
    have hl := lv_entry (As.map (rV g ad)) (n := Y.2.2.1) (by rw [lg_sl_r]; exact hn)
    rw [lv_args_r] at hl
    have K := (h g (p, l, e, ({ frames := fr, cells := mC Mf - mC M, slots := mT Mf - mT M, locals := lo } : Room), s, m, (As.map (rV g ad)).toArray, below, meth, c) ad).2 ⟨B.exec, B.bytes, hml, findClass_of_methodNamed B.named, B.returns, B.notSynchronized, hEx, (name_of_methodNamed B.named B.method).1, hst, hF, hg, Nat.le_refl _, Nat.le_refl _, Nat.le_refl _, Nat.le_refl _⟩ ad s.heap [] 0 0 _ ⟨⟨Nat.le_refl _, fun _ _ => rfl⟩, hR, hwM, wf_args _ As 0 hwA, va_S.rf, hl, Nat.zero_add _, Nat.zero_add _⟩ trivial
    rw [lg_entry_eq]
    obtain ⟨t, a1, o, b1, b2, b3⟩ := K s₁ hh0 (Stand.of_body B)
    exact ⟨t, o, a1, b1, b2, b3⟩
end
section
/-! THE PURE MACHINE: constants, the script, the table of columns, copies, throws -/
theorem qF.code {g : qG} {U : State} {H : Heap} (h : qF g U H) {Y : qY} (hY : Y ∈ qMs) (a : Array Value) : (Cond.code Y.1 Y.2.1 Y.2.2.1 Y.2.2.2).before a U = true := word_at (State.WarmedH.refl U) (Or.inl rfl) (h.2.2.2.1.1 _ (qMs_in Y hY) rfl)
/-! THE PURE MACHINE: calls -/
def qCb (Y' : qY) (n : Nat) : Prop := Y' ∈ qMs ∧ Cond.initialized Y'.1.cls ∈ qTT ∧ Y'.1.cls ≠ "java/lang/invoke/MethodHandle" ∧ Y'.1.cls ≠ "java/lang/invoke/VarHandle" ∧ (parseMethodDescriptor Y'.1.desc).map (fun d => d.parameters.length) = some n
def qCv (own : String) (ix ci : Nat) (Y' : qY) (n : Nat) : Prop := qCb Y' n ∧ (∃ (T : u_T) (N : Nat), qCl[ci]? = some (Y'.1.cls, T, N)) ∧ Cond.instanceMethod Y'.1 ∈ qTT ∧ Cond.selects Y'.1.cls Y'.1 Y'.1 ∈ qTT ∧ ((Cond.methodLink own ix Y'.1 ∈ qTT) ∨ ∃ host, Cond.methodLinkNest own ix Y'.1 host ∈ qNN)
def qCs (own : String) (ix : Nat) (Y' : qY) (n : Nat) : Prop := qCb Y' n ∧ Cond.static Y'.1 ∈ qTT ∧ ((Cond.methodLink own ix Y'.1 ∈ qTT) ∨ ∃ host, Cond.methodLinkNest own ix Y'.1 host ∈ qNN)
def qCi (own : String) (ix : Nat) (Y' : qY) (n : Nat) : Prop := qCb Y' n ∧ Y'.1.name = "<init>" ∧ Y'.2.2.2 = none ∧ Cond.instanceMethod Y'.1 ∈ qTT ∧ Cond.methodLink own ix Y'.1 ∈ qTT
theorem wfS_app {n : Nat} : ∀ {a b : List Value}, wfS n a → wfS n b → wfS n (a ++ b) := by
  intro a
  induction a with
  | nil => exact fun _ h => h
  | cons v t ih => exact fun h h2 => ⟨h.1, ih h.2 h2⟩
theorem wfS_mem {n : Nat} : ∀ {a : List Value}, wfS n a ↔ ∀ v ∈ a, wfV n v := by
  intro a
  induction a with
  | nil => exact ⟨fun _ v hv => (by cases hv), fun _ => trivial⟩
  | cons v t ih =>
    constructor
    · intro h u hu
      rcases List.mem_cons.mp hu with e | e
      · rw [e]; exact h.1
      · exact ih.mp h.2 u e
    · intro h
      exact ⟨h v List.mem_cons_self, ih.mpr fun u hu => h u (List.mem_cons_of_mem _ hu)⟩
theorem wfS_rev {n : Nat} {a b : List Value} (h : wfS n (a.reverse ++ b)) : wfS n a ∧ wfS n b :=
  ⟨wfS_mem.mpr fun v hv => wfS_mem.mp h v (List.mem_append_left _ (List.mem_reverse.mpr hv)), wfS_mem.mpr fun v hv => wfS_mem.mp h v (List.mem_append_right _ hv)⟩
theorem rS_cat (g : qG) (ad : Nat → Nat) (st : List Value) : ((st.map (rV g ad)).map fun v => v.category).sum = (st.map fun v => v.category).sum := by
  rw [List.map_map]
  congr 1
  apply List.map_congr_left
  intro v _
  exact rV_cat g ad v
def qPo (g : qG) (ad0 : Nat → Nat) (M0 : PM) (res : Option Value ⊕ String) (Mf : PM) : Array Value → State → Outcome → State → Prop := fun _ st o t =>
  (∃ (v : Option Value) (ad : Nat → Nat), res = .inl v ∧ o = .returned (v.map (rV g ad)) ∧ (∀ k, k < mS M0 → ad k = ad0 k) ∧ qR g ad Mf t.heap ∧ wfM Mf ∧ wfS (mS Mf) v.toList) ∧ va_F (qA g) st t
theorem CT_met {Y : qY} {fr lo : Nat} {As : List Value} {M Mf : PM} {v : Option Value} (h : CT Y fr lo As M (.inl v) Mf) {l : Launch} (g : qG) (ad : Nat → Nat) (hst : l.stackTraces = false) (hw : wfM M) (hA : wfS (mS M) As) :
    Met l Y.1 [Cond.code Y.1 Y.2.1 Y.2.2.1 Y.2.2.2] { frames := fr, cells := mC Mf - mC M, slots := mT Mf - mT M, locals := lo } (va_Pc (As.map (rV g ad)) (fun U => g.1 ≤ U.heap.size ∧ qF g U U.heap ∧ qR g ad M U.heap)) (qPo g ad M (.inl v) Mf) (mC Mf - mC M) (mT Mf - mT M) (qA g) := by
  refine MetFree.mono (h.2 l g ad hst hw hA) (fun _ _ h => h) (fun _ _ _ _ _ h => h) ?_
  intro a s o s' _ hq
  rcases hq with ⟨h1, h2, h3⟩ | ⟨E, q, ce, L, ad', hr, -⟩
  · exact ⟨⟨h1, h2⟩, h3⟩
  · cases hr
section EWC
variable {Y : qY} {g : qG} {X : qX} {Z : qZ} {pc : Nat} {L L' : List (Nat × Value)} {st : List Value} {M : PM}
theorem ew_back {M' : PM} {v : Option Value} {a : Array Value} {stk : List Value} {ad : Nat → Nat} {H : Heap} {locs : List Loc} {cells slots : Nat} {ls : Array Slot}
    (hr : va_Run (xp X) (xl X) (xe X) (xR X) (xs X) (xm X) (xa X) (xb X) (xh X) (xc X) H locs cells slots (mC M' - mC M) (mT M' - mT M) (F0 (xm X) pc ls stk) (st.map (rV g ad)) (qPo g ad M (.inl v) M' a) (qA g))
    (ok : qOk Y g X Z) (I : qIn Y g X Z L M ad H locs cells slots ls) (hs : wfS (mS M) st) (hle : mC M ≤ mC M' ∧ mT M ≤ mT M' ∧ mS M ≤ mS M') (k : EW Y g X Z (pc + 3) L (v.toList ++ st) M') : qW g X Z H locs cells slots (F0 (xm X) pc ls stk) := by
  intro T hT X0
  obtain ⟨v', st₀, t, T', Lc, h0, X', hL, e1, e2, hq, go⟩ := hr T hT X0
  obtain ⟨⟨v1, ad1, hr1, ho, hag, hR1, hw1, hv1⟩, hFz, hFk⟩ := hq
  cases Sum.inl.inj hr1
  cases ho
  rw [h0] at hFz hFk
  have c1 := I.2.2.2.2.2.2.1
  have c2 := I.2.2.2.2.2.2.2
  have S := I.2.2.2.2.1
  have K := k.2 ok ad1 T'.heap (locs ++ Lc) (cells + (mC M' - mC M)) (slots + (mT M' - mT M)) ls
    ⟨⟨Nat.le_trans I.1.1 hle.2.2, fun j hj => (hag j (Nat.lt_of_lt_of_le hj I.1.1)).trans (I.1.2 j hj)⟩, by rw [e1]; exact hR1, hw1, wfL_mono hle.2.2 I.2.2.2.1,
      ⟨Nat.le_trans S.1 (by rw [e1]; exact hFz), fun q h1 h2 => by rw [e1, hFk q (Nat.lt_of_lt_of_le h1 S.1) h2]; exact S.2.1 q h1 h2, fun q hq => (List.mem_append.mp hq).elim (S.2.2 q) (hL q)⟩,
      by rw [rL_ext hag I.2.2.2.1]; exact I.2.2.2.2.2.1, by omega, by omega⟩ (wfS_app hv1 (wfS_mono hle.2.2 hs))
  have e9 : (v.toList ++ st).map (rV g ad1) = (v.map (rV g ad1)).toList ++ st.map (rV g ad) := by
    rw [List.map_append, rS_ext hag hs]
    cases v <;> rfl
  rw [e9] at K
  obtain ⟨t2, a1, b1⟩ := K T' rfl X'
  exact ⟨t2, go t2 a1, b1⟩
theorem qPre_blind {As : List Value} {ad : Nat → Nat} {M0 : PM} : FrameBlind (va_Pc (As.map (rV g ad)) (fun U => g.1 ≤ U.heap.size ∧ qF g U U.heap ∧ qR g ad M0 U.heap)) :=
  fun a U g' mk q => ⟨q.1, q.2.1, qF.moved (s := U) (U := U.calling g' mk a) (State.WarmedH.refl U) q.2.2.1, q.2.2.2⟩
theorem qPre_at {As : List Value} {ad : Nat → Nat} {H : Heap} {locs : List Loc} {cells slots : Nat} {ls : Array Slot} (ok : qOk Y g X Z) (I : qIn Y g X Z L M ad H locs cells slots ls) : ∀ U : State, U.heap = H → (xs X).WarmedH U.vm → va_Pc (As.map (rV g ad)) (fun U => g.1 ≤ U.heap.size ∧ qF g U U.heap ∧ qR g ad M U.heap) (As.map (rV g ad)).toArray U := by
  intro U hU hW
  obtain ⟨hx, hb, hml, hown, hr, hlk, hEx, hnm, hst, hF, hg0, -⟩ := id ok
  refine ⟨rfl, by rw [hU]; exact Nat.le_trans hg0 I.2.2.2.2.1.1, ?_, by rw [hU]; exact I.2.1⟩
  rw [hU]
  exact (qF.kept hF (fun a h1 h2 => I.2.2.2.2.1.2.1 a h1 h2)).moved hW
theorem qCb_at {Y' : qY} {n ix fr' lo' : Nat} {M' : PM} (hc : qCb Y' n) (ok : qOk Y g X Z) (hfr : fr' + 1 ≤ zn Z) (hlo : 8 + (Y'.2.2.1 + 11) + lo' ≤ zl Z) (hl : (Cond.methodLink Y.1.cls ix Y'.1).before (xa X) (xs X) = true) :
    CallB (xR X) (xs X) (xa X) Y.1.cls ix Y'.1 Y'.2.1 Y'.2.2.1 Y'.2.2.2 [Cond.code Y'.1 Y'.2.1 Y'.2.2.1 Y'.2.2.2] { frames := fr', cells := mC M' - mC M, slots := mT M' - mT M, locals := lo' } (mC M' - mC M) (mT M' - mT M) n := by
  obtain ⟨hx, hb, hml, hown, hr, hlk, hEx, hnm, hst, hF, hg0, hfr0, hlo0, -⟩ := id ok
  obtain ⟨hm, hini, h1, h2, h3⟩ := hc
  refine ⟨rfl, rfl, Nat.le_trans hfr hfr0, Nat.le_trans hlo hlo0, fun w hw a' U hW => ?_, List.mem_singleton.mpr rfl, qF.code hF hm _, hF.word hini _, ⟨h1, h2⟩, fun sig h => ?_, hl⟩
  · rw [List.mem_singleton.mp hw]
    exact word_at hW (Or.inl rfl) (qF.code hF hm #[])
  · rw [h] at h3
    exact (Option.some.inj h3).symm
theorem qCn_at {Y' : qY} {n ix fr' lo' : Nat} {host : String} {M' : PM} (hc : qCb Y' n) (ok : qOk Y g X Z) (hfr : fr' + 1 ≤ zn Z) (hlo : 8 + (Y'.2.2.1 + 11) + lo' ≤ zl Z) (hl : va_Nw (.methodLinkNest Y.1.cls ix Y'.1 host) (xs X)) :
    va_CN (xR X) (xs X) (xa X) Y.1.cls ix Y'.1 host Y'.2.1 Y'.2.2.1 Y'.2.2.2 [Cond.code Y'.1 Y'.2.1 Y'.2.2.1 Y'.2.2.2] { frames := fr', cells := mC M' - mC M, slots := mT M' - mT M, locals := lo' } (mC M' - mC M) (mT M' - mT M) n := by
  obtain ⟨hx, hb, hml, hown, hr, hlk, hEx, hnm, hst, hF, hg0, hfr0, hlo0, -⟩ := id ok
  obtain ⟨hm, hini, h1, h2, h3⟩ := hc
  refine ⟨⟨rfl, rfl, Nat.le_trans hfr hfr0, Nat.le_trans hlo hlo0, fun w hw a' U hW => ?_, List.mem_singleton.mpr rfl⟩, qF.code hF hm _, hF.word hini _, ⟨h1, h2⟩, fun sig h => ?_, va_Nw.use rfl hl⟩
  · rw [List.mem_singleton.mp hw]
    exact word_at hW (Or.inl rfl) (qF.code hF hm #[])
  · rw [h] at h3
    exact (Option.some.inj h3).symm
theorem ew_callV {Y' : qY} {ix b fr' lo' : Nat} {v : Option Value} {M' : PM} {stk stk' : List Value} (ci : Nat) (As : List Value) (hd : decode Y.2.1 pc = .ok (.invokevirtual ix, 3)) (hc : qCv Y.1.cls ix ci Y' As.length) (ht : CT Y' fr' lo' (.ref b :: As) M (.inl v) M') (hk : mK M b = ci + 3) (hfr : fr' + 1 ≤ zn Z) (hlo : 8 + (Y'.2.2.1 + 11) + lo' ≤ zl Z) (h8 : (st.map fun v => v.category).sum ≤ 8) (hstk : As.reverse ++ .ref b :: st = stk) (hstk' : v.toList ++ st = stk') (k : EW Y g X Z (pc + 3) L stk' M') : EW Y g X Z pc L stk M := by
  subst hstk; subst hstk'
  refine ⟨⟨Nat.le_trans (ht.1 g X).1 k.1.1, Nat.le_trans (ht.1 g X).2.1 k.1.2.1, Nat.le_trans (ht.1 g X).2.2 k.1.2.2⟩, fun ok ad H locs cells slots ls I hs => ?_⟩
  obtain ⟨hx, hb, hml, hown, hr, hlk, hEx, hnm, hst, hF, hg0, hfr0, hlo0, hRc, hRs⟩ := id ok
  obtain ⟨hcb, ⟨T9, N9, hcl⟩, hin, hsel, hlink⟩ := hc
  obtain ⟨w1, w2⟩ := wfS_rev hs
  have c1 := I.2.2.2.2.2.2.1
  have c2 := I.2.2.2.2.2.2.2
  have d1 := ht.1 g X
  have d2 := k.1
  have hM := CT_met ht (l := xl X) g ad hst I.2.2.1 ⟨w2.1, w1⟩
  have he : (rW g ad M)[b]? = some (ad b, .inr (ci, (List.range (qNf ci)).map (fun j => rV g ad (mF M b j)))) := by rw [rW_get w2.1, rE_3 hk]
  have hp : PreV (xs X) H Y'.1.cls (ad b) (va_Pc ((Value.ref b :: As).map (rV g ad)) (fun U => g.1 ≤ U.heap.size ∧ qF g U U.heap ∧ qR g ad M U.heap)) (As.map (rV g ad)) :=
    ⟨qPre_blind, va_recv hF.2.2.1 I.2.1.1 hcl he, qPre_at (As := Value.ref b :: As) ok I⟩
  have hstack : (F0 (xm X) pc ls ((As.reverse ++ Value.ref b :: st).map (rV g ad))).stack = (As.map (rV g ad)).reverse ++ .ref (ad b) :: st.map (rV g ad) := by
    show (As.reverse ++ Value.ref b :: st).map (rV g ad) = _
    rw [List.map_append, List.map_reverse]
    rfl
  rcases hlink with hl | ⟨host, hl⟩
  · exact ew_back (va_runV (Ts := []) ⟨hx, hb, hml, hown, fun _ h => (by cases h)⟩ hM ⟨qCb_at hcb ok hfr hlo (hF.word hl _), hF.word hin _, hF.word hsel _⟩ hp rfl (List.length_map _) I.2.2.2.2.2.1.1 hstack (lv_room (by rw [rS_cat]; exact h8)) hd ⟨by omega, by omega⟩) ok I w2.2 (ht.1 g X) k
  · exact ew_back (va_runVN (Ts := []) ⟨hx, hb, hml, hown, fun _ h => (by cases h)⟩ hM ⟨qCn_at hcb ok hfr hlo (hF.2.1 _ hl), hF.word hin _, hF.word hsel _⟩ hp rfl (List.length_map _) I.2.2.2.2.2.1.1 hstack (lv_room (by rw [rS_cat]; exact h8)) hd ⟨by omega, by omega⟩) ok I w2.2 (ht.1 g X) k
theorem ew_callS {Y' : qY} {ix fr' lo' : Nat} {v : Option Value} {M' : PM} {stk stk' : List Value} (As : List Value) (hd : decode Y.2.1 pc = .ok (.invokestatic ix, 3)) (hc : qCs Y.1.cls ix Y' As.length) (ht : CT Y' fr' lo' As M (.inl v) M') (hfr : fr' + 1 ≤ zn Z) (hlo : 8 + (Y'.2.2.1 + 11) + lo' ≤ zl Z) (h8 : (st.map fun v => v.category).sum ≤ 8) (hstk : As.reverse ++ st = stk) (hstk' : v.toList ++ st = stk') (k : EW Y g X Z (pc + 3) L stk' M') : EW Y g X Z pc L stk M := by
  subst hstk; subst hstk'
  refine ⟨⟨Nat.le_trans (ht.1 g X).1 k.1.1, Nat.le_trans (ht.1 g X).2.1 k.1.2.1, Nat.le_trans (ht.1 g X).2.2 k.1.2.2⟩, fun ok ad H locs cells slots ls I hs => ?_⟩
  obtain ⟨hx, hb, hml, hown, hr, hlk, hEx, hnm, hst, hF, hg0, hfr0, hlo0, hRc, hRs⟩ := id ok
  obtain ⟨hcb, hsta, hlink⟩ := hc
  obtain ⟨w1, w2⟩ := wfS_rev hs
  have c1 := I.2.2.2.2.2.2.1
  have c2 := I.2.2.2.2.2.2.2
  have d1 := ht.1 g X
  have d2 := k.1
  have hM := CT_met ht (l := xl X) g ad hst I.2.2.1 w1
  have hp : PreS (xs X) H (va_Pc (As.map (rV g ad)) (fun U => g.1 ≤ U.heap.size ∧ qF g U U.heap ∧ qR g ad M U.heap)) (As.map (rV g ad)) := ⟨qPre_blind, qPre_at ok I⟩
  have hstack : (F0 (xm X) pc ls ((As.reverse ++ st).map (rV g ad))).stack = (As.map (rV g ad)).reverse ++ st.map (rV g ad) := by
    show (As.reverse ++ st).map (rV g ad) = _
    rw [List.map_append, List.map_reverse]
  rcases hlink with hl | ⟨host, hl⟩
  · exact ew_back (va_runS (Ts := []) ⟨hx, hb, hml, hown, fun _ h => (by cases h)⟩ hM ⟨qCb_at hcb ok hfr hlo (hF.word hl _), hF.word hsta _⟩ hp rfl (List.length_map _) I.2.2.2.2.2.1.1 hstack (lv_room (by rw [rS_cat]; exact h8)) hd ⟨by omega, by omega⟩) ok I w2 (ht.1 g X) k
  · exact ew_back (va_runSN (Ts := []) ⟨hx, hb, hml, hown, fun _ h => (by cases h)⟩ hM ⟨qCn_at hcb ok hfr hlo (hF.2.1 _ hl), hF.word hsta _, trivial⟩ hp rfl (List.length_map _) I.2.2.2.2.2.1.1 hstack (lv_room (by rw [rS_cat]; exact h8)) hd ⟨by omega, by omega⟩) ok I w2 (ht.1 g X) k
theorem ew_callI {Y' : qY} {ix b fr' lo' : Nat} {M' : PM} {stk : List Value} (As : List Value) (hd : decode Y.2.1 pc = .ok (.invokespecial ix, 3)) (hc : qCi Y.1.cls ix Y' As.length) (ht : CT Y' fr' lo' (.ref b :: As) M (.inl none) M') (hfr : fr' + 1 ≤ zn Z) (hlo : 8 + (Y'.2.2.1 + 11) + lo' ≤ zl Z) (h8 : (st.map fun v => v.category).sum ≤ 8) (hstk : As.reverse ++ .ref b :: st = stk) (k : EW Y g X Z (pc + 3) L st M') : EW Y g X Z pc L stk M := by
  subst hstk
  refine ⟨⟨Nat.le_trans (ht.1 g X).1 k.1.1, Nat.le_trans (ht.1 g X).2.1 k.1.2.1, Nat.le_trans (ht.1 g X).2.2 k.1.2.2⟩, fun ok ad H locs cells slots ls I hs => ?_⟩
  obtain ⟨hx, hb, hml, hown, hr, hlk, hEx, hnm, hst, hF, hg0, hfr0, hlo0, hRc, hRs⟩ := id ok
  obtain ⟨hcb, hy1, hy2, hin, hl⟩ := hc
  obtain ⟨w1, w2⟩ := wfS_rev hs
  have c1 := I.2.2.2.2.2.2.1
  have c2 := I.2.2.2.2.2.2.2
  have d1 := ht.1 g X
  have d2 := k.1
  have hM := CT_met ht (l := xl X) g ad hst I.2.2.1 ⟨w2.1, w1⟩
  have hp : PreS (xs X) H (va_Pc ((Value.ref b :: As).map (rV g ad)) (fun U => g.1 ≤ U.heap.size ∧ qF g U U.heap ∧ qR g ad M U.heap)) (.ref (ad b) :: As.map (rV g ad)) := ⟨qPre_blind, qPre_at (As := Value.ref b :: As) ok I⟩
  have hstack : (F0 (xm X) pc ls ((As.reverse ++ Value.ref b :: st).map (rV g ad))).stack = (As.map (rV g ad)).reverse ++ .ref (ad b) :: st.map (rV g ad) := by
    show (As.reverse ++ Value.ref b :: st).map (rV g ad) = _
    rw [List.map_append, List.map_reverse]
    rfl
  have hcb2 := qCb_at (M' := M') (M := M) (lo' := lo') hcb ok hfr hlo (hF.word hl _)
  rw [hy2] at hcb2 hM
  exact ew_back (v := none) (va_runI (Ts := []) ⟨hx, hb, hml, hown, fun _ h => (by cases h)⟩ hM ⟨hcb2, hy1, hF.word hin _⟩ hp rfl (List.length_map _) I.2.2.2.2.2.1.1 hstack (lv_room (by rw [rS_cat]; exact h8)) hd ⟨by omega, by omega⟩) ok I w2.2 (ht.1 g X) k
/-- Object's own constructor -/
theorem ew_objInit {ix a : Nat} (hd : decode Y.2.1 pc = .ok (.invokespecial ix, 3)) (hl : Cond.methodLink Y.1.cls ix objectInit ∈ qTT) (hfr : 1 ≤ zn Z) (hlo : (st.map fun v => v.category).sum + 12 ≤ zl Z) (k : EW Y g X Z (pc + 3) L st M) : EW Y g X Z pc L (.ref a :: st) M := by
  refine ⟨k.1, fun ok ad H locs cells slots ls I hs => ?_⟩
  obtain ⟨hx, hb, hml, hown, hr, hlk, hEx, hnm, hst, hF, hg0, hfr0, hlo0, hRc, hRs⟩ := id ok
  exact W.objInit hx hb hown (hF.word hl _) (hF.word qOb _) (qF.code hF qObC _) rfl (I.2.2.2.2.2.1.1.trans hml.symm) rfl hd (Nat.le_trans hfr hfr0) (by rw [rS_cat]; show 2 * 0 + _ + 12 ≤ _; omega) (k.2 ok ad H locs cells slots ls I hs.2)
end EWC
end
section
/-! THE PURE MACHINE: its steps as functions, and what their success says -/
abbrev qRs : Type := Option Value ⊕ String
abbrev qO : Type := Option (qRs × PM)
theorem nI_of_nn {i : Int32} (h : ¬ i < 0) : i = nI i.toNatClampNeg := by
  obtain ⟨j, hj, e⟩ := nI_of h
  rw [e, nI_clamp hj]
def kO (ci : Nat) (M : PM) (b : Nat) (x : qO) : qO := if mK M b = ci + 3 then x else none
theorem kO_inv {ci : Nat} {M : PM} {b : Nat} {x : qO} {r : qRs × PM} (h : kO ci M b x = some r) : mK M b = ci + 3 ∧ x = some r := by
  unfold kO at h
  split at h
  · exact ⟨by assumption, h⟩
  · cases h
def gI (ci : Nat) (M : PM) (a j : Nat) (k : Int32 → qO) : qO := if mK M a = ci + 3 then (match mF M a j with | .int v => k v | _ => none) else none
theorem gI_inv {ci : Nat} {M : PM} {a j : Nat} {k : Int32 → qO} {r : qRs × PM} (h : gI ci M a j k = some r) : ∃ v, mK M a = ci + 3 ∧ mF M a j = .int v ∧ k v = some r := by
  unfold gI at h
  split at h
  · rename_i h1
    split at h
    · rename_i v h2
      exact ⟨v, h1, h2, h⟩
    · cases h
  · cases h
theorem gI_eq {ci : Nat} {M : PM} {a j : Nat} {v : Int32} {k : Int32 → qO} (h1 : mK M a = ci + 3) (h2 : mF M a j = .int v) : gI ci M a j k = k v := by
  unfold gI
  rw [if_pos h1, h2]
def gJ (ci : Nat) (M : PM) (a j : Nat) (k : Int64 → qO) : qO := if mK M a = ci + 3 then (match mF M a j with | .long v => k v | _ => none) else none
theorem gJ_inv {ci : Nat} {M : PM} {a j : Nat} {k : Int64 → qO} {r : qRs × PM} (h : gJ ci M a j k = some r) : ∃ v, mK M a = ci + 3 ∧ mF M a j = .long v ∧ k v = some r := by
  unfold gJ at h
  split at h
  · rename_i h1
    split at h
    · rename_i v h2
      exact ⟨v, h1, h2, h⟩
    · cases h
  · cases h
theorem gJ_eq {ci : Nat} {M : PM} {a j : Nat} {v : Int64} {k : Int64 → qO} (h1 : mK M a = ci + 3) (h2 : mF M a j = .long v) : gJ ci M a j k = k v := by
  unfold gJ
  rw [if_pos h1, h2]
def gR (ci : Nat) (M : PM) (a j : Nat) (k : Nat → qO) : qO := if mK M a = ci + 3 then (match mF M a j with | .ref v => k v | _ => none) else none
theorem gR_inv {ci : Nat} {M : PM} {a j : Nat} {k : Nat → qO} {r : qRs × PM} (h : gR ci M a j k = some r) : ∃ v, mK M a = ci + 3 ∧ mF M a j = .ref v ∧ k v = some r := by
  unfold gR at h
  split at h
  · rename_i h1
    split at h
    · rename_i v h2
      exact ⟨v, h1, h2, h⟩
    · cases h
  · cases h
theorem gR_eq {ci : Nat} {M : PM} {a j : Nat} {v : Nat} {k : Nat → qO} (h1 : mK M a = ci + 3) (h2 : mF M a j = .ref v) : gR ci M a j k = k v := by
  unfold gR
  rw [if_pos h1, h2]
def pF (ci : Nat) (M : PM) (a j : Nat) (v : Value) (k : PM → qO) : qO := if mK M a = ci + 3 then k (sF M a j v) else none
theorem pF_inv {ci : Nat} {M : PM} {a j : Nat} {v : Value} {k : PM → qO} {r : qRs × PM} (h : pF ci M a j v k = some r) : ∃ M1, mK M a = ci + 3 ∧ M1 = sF M a j v ∧ k M1 = some r := by
  unfold pF at h
  split at h
  · exact ⟨_, by assumption, rfl, h⟩
  · cases h
def aL (M : PM) (a : Nat) (k : Int32 → qO) : qO := if mK M a < 3 then k (nI (mN M a)) else none
theorem aL_inv {M : PM} {a : Nat} {k : Int32 → qO} {r : qRs × PM} (h : aL M a k = some r) : ∃ v, mK M a < 3 ∧ v = nI (mN M a) ∧ k v = some r := by
  unfold aL at h
  split at h
  · exact ⟨_, by assumption, rfl, h⟩
  · cases h
def mA (kd : Nat) (M : PM) (i : Int32) (k : Nat → PM → qO) : qO := if ¬ i < 0 ∧ i.toNatClampNeg ≤ 67108864 then k (mS M) (nA M kd i.toNatClampNeg) else none
theorem mA_inv {kd : Nat} {M : PM} {i : Int32} {k : Nat → PM → qO} {r : qRs × PM} (h : mA kd M i k = some r) : ∃ q M1, i = nI i.toNatClampNeg ∧ i.toNatClampNeg ≤ 67108864 ∧ q = mS M ∧ M1 = nA M kd i.toNatClampNeg ∧ k q M1 = some r := by
  unfold mA at h
  split at h
  · rename_i h1
    exact ⟨_, _, nI_of_nn h1.1, h1.2, rfl, rfl, h⟩
  · cases h
def lI (M : PM) (a : Nat) (i : Int32) (k : Int32 → qO) : qO := if mK M a = 0 ∧ ¬ i < 0 ∧ i.toNatClampNeg < mN M a then k (mI M a i.toNatClampNeg) else none
theorem lI_inv {M : PM} {a : Nat} {i : Int32} {k : Int32 → qO} {r : qRs × PM} (h : lI M a i k = some r) : ∃ v, mK M a = 0 ∧ i = nI i.toNatClampNeg ∧ i.toNatClampNeg < mN M a ∧ v = mI M a i.toNatClampNeg ∧ k v = some r := by
  unfold lI at h
  split at h
  · rename_i h1
    exact ⟨_, h1.1, nI_of_nn h1.2.1, h1.2.2, rfl, h⟩
  · cases h
theorem lI_eq {M : PM} {a j : Nat} {k : Int32 → qO} (h1 : mK M a = 0) (hj : j < mN M a) (hn : mN M a < 2 ^ 31) : lI M a (nI j) k = k (mI M a j) := by
  unfold lI
  rw [nI_clamp (Nat.lt_trans hj hn), if_pos ⟨h1, nI_pos (Nat.lt_trans hj hn), hj⟩]
def lZ (M : PM) (a : Nat) (i : Int32) (k : Int32 → qO) : qO := if mK M a = 1 ∧ ¬ i < 0 ∧ i.toNatClampNeg < mN M a then k (mI M a i.toNatClampNeg) else none
theorem lZ_inv {M : PM} {a : Nat} {i : Int32} {k : Int32 → qO} {r : qRs × PM} (h : lZ M a i k = some r) : ∃ v, mK M a = 1 ∧ i = nI i.toNatClampNeg ∧ i.toNatClampNeg < mN M a ∧ v = mI M a i.toNatClampNeg ∧ k v = some r := by
  unfold lZ at h
  split at h
  · rename_i h1
    exact ⟨_, h1.1, nI_of_nn h1.2.1, h1.2.2, rfl, h⟩
  · cases h
theorem lZ_eq {M : PM} {a j : Nat} {k : Int32 → qO} (h1 : mK M a = 1) (hj : j < mN M a) (hn : mN M a < 2 ^ 31) : lZ M a (nI j) k = k (mI M a j) := by
  unfold lZ
  rw [nI_clamp (Nat.lt_trans hj hn), if_pos ⟨h1, nI_pos (Nat.lt_trans hj hn), hj⟩]
def lL (M : PM) (a : Nat) (i : Int32) (k : Int64 → qO) : qO := if mK M a = 2 ∧ ¬ i < 0 ∧ i.toNatClampNeg < mN M a then k (mL M a i.toNatClampNeg) else none
theorem lL_inv {M : PM} {a : Nat} {i : Int32} {k : Int64 → qO} {r : qRs × PM} (h : lL M a i k = some r) : ∃ v, mK M a = 2 ∧ i = nI i.toNatClampNeg ∧ i.toNatClampNeg < mN M a ∧ v = mL M a i.toNatClampNeg ∧ k v = some r := by
  unfold lL at h
  split at h
  · rename_i h1
    exact ⟨_, h1.1, nI_of_nn h1.2.1, h1.2.2, rfl, h⟩
  · cases h
theorem lL_eq {M : PM} {a j : Nat} {k : Int64 → qO} (h1 : mK M a = 2) (hj : j < mN M a) (hn : mN M a < 2 ^ 31) : lL M a (nI j) k = k (mL M a j) := by
  unfold lL
  rw [nI_clamp (Nat.lt_trans hj hn), if_pos ⟨h1, nI_pos (Nat.lt_trans hj hn), hj⟩]
def wI (M : PM) (a : Nat) (i : Int32) (v : Int32) (k : PM → qO) : qO := if mK M a = 0 ∧ ¬ i < 0 ∧ i.toNatClampNeg < mN M a then k (sI M a i.toNatClampNeg v) else none
theorem wI_inv {M : PM} {a : Nat} {i : Int32} {v : Int32} {k : PM → qO} {r : qRs × PM} (h : wI M a i v k = some r) : ∃ M1, mK M a = 0 ∧ i = nI i.toNatClampNeg ∧ i.toNatClampNeg < mN M a ∧ M1 = sI M a i.toNatClampNeg v ∧ k M1 = some r := by
  unfold wI at h
  split at h
  · rename_i h1
    exact ⟨_, h1.1, nI_of_nn h1.2.1, h1.2.2, rfl, h⟩
  · cases h
theorem wI_eq {M : PM} {a j : Nat} {v : Int32} {k : PM → qO} (h1 : mK M a = 0) (hj : j < mN M a) (hn : mN M a < 2 ^ 31) : wI M a (nI j) v k = k (sI M a j v) := by
  unfold wI
  rw [nI_clamp (Nat.lt_trans hj hn), if_pos ⟨h1, nI_pos (Nat.lt_trans hj hn), hj⟩]
def wZ (M : PM) (a : Nat) (i : Int32) (v : Int32) (k : PM → qO) : qO := if mK M a = 1 ∧ ¬ i < 0 ∧ i.toNatClampNeg < mN M a then k (sI M a i.toNatClampNeg (vp_nar .boolean v)) else none
theorem wZ_inv {M : PM} {a : Nat} {i : Int32} {v : Int32} {k : PM → qO} {r : qRs × PM} (h : wZ M a i v k = some r) : ∃ M1, mK M a = 1 ∧ i = nI i.toNatClampNeg ∧ i.toNatClampNeg < mN M a ∧ M1 = sI M a i.toNatClampNeg (vp_nar .boolean v) ∧ k M1 = some r := by
  unfold wZ at h
  split at h
  · rename_i h1
    exact ⟨_, h1.1, nI_of_nn h1.2.1, h1.2.2, rfl, h⟩
  · cases h
theorem wZ_eq {M : PM} {a j : Nat} {v : Int32} {k : PM → qO} (h1 : mK M a = 1) (hj : j < mN M a) (hn : mN M a < 2 ^ 31) : wZ M a (nI j) v k = k (sI M a j (vp_nar .boolean v)) := by
  unfold wZ
  rw [nI_clamp (Nat.lt_trans hj hn), if_pos ⟨h1, nI_pos (Nat.lt_trans hj hn), hj⟩]
def wL (M : PM) (a : Nat) (i : Int32) (v : Int64) (k : PM → qO) : qO := if mK M a = 2 ∧ ¬ i < 0 ∧ i.toNatClampNeg < mN M a then k (sL M a i.toNatClampNeg v) else none
theorem wL_inv {M : PM} {a : Nat} {i : Int32} {v : Int64} {k : PM → qO} {r : qRs × PM} (h : wL M a i v k = some r) : ∃ M1, mK M a = 2 ∧ i = nI i.toNatClampNeg ∧ i.toNatClampNeg < mN M a ∧ M1 = sL M a i.toNatClampNeg v ∧ k M1 = some r := by
  unfold wL at h
  split at h
  · rename_i h1
    exact ⟨_, h1.1, nI_of_nn h1.2.1, h1.2.2, rfl, h⟩
  · cases h
theorem wL_eq {M : PM} {a j : Nat} {v : Int64} {k : PM → qO} (h1 : mK M a = 2) (hj : j < mN M a) (hn : mN M a < 2 ^ 31) : wL M a (nI j) v k = k (sL M a j v) := by
  unfold wL
  rw [nI_clamp (Nat.lt_trans hj hn), if_pos ⟨h1, nI_pos (Nat.lt_trans hj hn), hj⟩]
/-- behind a call that answers; one that may throw -/
def cI (x : qO) (k : Int32 → PM → qO) : qO := match x with
  | some (.inl (some (.int v)), M) => k v M
  | _ => none
theorem cI_inv {x : qO} {k : Int32 → PM → qO} {r : qRs × PM} (h : cI x k = some r) : ∃ v M, x = some (.inl (some (.int v)), M) ∧ k v M = some r := by
  unfold cI at h
  split at h
  · rename_i v M
    exact ⟨v, M, rfl, h⟩
  · cases h
def tI (x : qO) (k : Int32 → PM → qO) : qO := match x with
  | some (.inl (some (.int v)), M) => k v M
  | some (.inr E, M) => some (.inr E, M)
  | _ => none
theorem tI_inv {x : qO} {k : Int32 → PM → qO} {r : qRs × PM} (h : tI x k = some r) : (∃ v M, x = some (.inl (some (.int v)), M) ∧ k v M = some r) ∨ ∃ E M, x = some (.inr E, M) ∧ r = (.inr E, M) := by
  unfold tI at h
  split at h
  · rename_i v M
    exact Or.inl ⟨v, M, rfl, h⟩
  · rename_i E M
    exact Or.inr ⟨E, M, rfl, (Option.some.inj h).symm⟩
  · cases h
/-- behind a call that answers; one that may throw -/
def cL (x : qO) (k : Int64 → PM → qO) : qO := match x with
  | some (.inl (some (.long v)), M) => k v M
  | _ => none
theorem cL_inv {x : qO} {k : Int64 → PM → qO} {r : qRs × PM} (h : cL x k = some r) : ∃ v M, x = some (.inl (some (.long v)), M) ∧ k v M = some r := by
  unfold cL at h
  split at h
  · rename_i v M
    exact ⟨v, M, rfl, h⟩
  · cases h
def tL (x : qO) (k : Int64 → PM → qO) : qO := match x with
  | some (.inl (some (.long v)), M) => k v M
  | some (.inr E, M) => some (.inr E, M)
  | _ => none
theorem tL_inv {x : qO} {k : Int64 → PM → qO} {r : qRs × PM} (h : tL x k = some r) : (∃ v M, x = some (.inl (some (.long v)), M) ∧ k v M = some r) ∨ ∃ E M, x = some (.inr E, M) ∧ r = (.inr E, M) := by
  unfold tL at h
  split at h
  · rename_i v M
    exact Or.inl ⟨v, M, rfl, h⟩
  · rename_i E M
    exact Or.inr ⟨E, M, rfl, (Option.some.inj h).symm⟩
  · cases h
/-- behind a call that answers; one that may throw -/
def cR (x : qO) (k : Nat → PM → qO) : qO := match x with
  | some (.inl (some (.ref v)), M) => k v M
  | _ => none
theorem cR_inv {x : qO} {k : Nat → PM → qO} {r : qRs × PM} (h : cR x k = some r) : ∃ v M, x = some (.inl (some (.ref v)), M) ∧ k v M = some r := by
  unfold cR at h
  split at h
  · rename_i v M
    exact ⟨v, M, rfl, h⟩
  · cases h
def tR (x : qO) (k : Nat → PM → qO) : qO := match x with
  | some (.inl (some (.ref v)), M) => k v M
  | some (.inr E, M) => some (.inr E, M)
  | _ => none
theorem tR_inv {x : qO} {k : Nat → PM → qO} {r : qRs × PM} (h : tR x k = some r) : (∃ v M, x = some (.inl (some (.ref v)), M) ∧ k v M = some r) ∨ ∃ E M, x = some (.inr E, M) ∧ r = (.inr E, M) := by
  unfold tR at h
  split at h
  · rename_i v M
    exact Or.inl ⟨v, M, rfl, h⟩
  · rename_i E M
    exact Or.inr ⟨E, M, rfl, (Option.some.inj h).symm⟩
  · cases h
def mO (ci : Nat) (M : PM) (k : Nat → PM → qO) : qO := k (mS M) (nO M ci)
theorem mO_inv {ci : Nat} {M : PM} {k : Nat → PM → qO} {r : qRs × PM} (h : mO ci M k = some r) : ∃ q M1, q = mS M ∧ M1 = nO M ci ∧ k q M1 = some r := ⟨_, _, rfl, rfl, h⟩
def bI (v : Int32) (k : Int32 → qO) : qO := k v
theorem bI_inv {v : Int32} {k : Int32 → qO} {r : qRs × PM} (h : bI v k = some r) : ∃ x, x = v ∧ k x = some r := ⟨_, rfl, h⟩
def bL (v : Int64) (k : Int64 → qO) : qO := k v
theorem bL_inv {v : Int64} {k : Int64 → qO} {r : qRs × PM} (h : bL v k = some r) : ∃ x, x = v ∧ k x = some r := ⟨_, rfl, h⟩
def rZ (v : Int32) (M : PM) : qO := if v = 0 ∨ v = 1 then some (.inl (some (.int v)), M) else none
theorem rZ_inv {v : Int32} {M : PM} {r : qRs × PM} (h : rZ v M = some r) : narrow .boolean (.int v) = .int v ∧ some (.inl (some (.int v)), M) = some r := by
  unfold rZ at h
  split at h
  · rename_i h1
    refine ⟨?_, h⟩
    rcases h1 with e | e <;> (rw [e]; rfl)
  · cases h
def cV (x : qO) (k : PM → qO) : qO := match x with
  | some (.inl none, M) => k M
  | _ => none
theorem cV_inv {x : qO} {k : PM → qO} {r : qRs × PM} (h : cV x k = some r) : ∃ M, x = some (.inl none, M) ∧ k M = some r := by
  unfold cV at h
  split at h
  · rename_i M
    exact ⟨M, rfl, h⟩
  · cases h
def xI (x : qO) (hs : List (String × Int32)) (k : Int32 → PM → qO) : qO := match x with
  | some (.inl (some (.int v)), M) => k v M
  | some (.inr E, M) => match hs.find? (fun q => q.1 == E) with
    | some q => some (.inl (some (.int q.2)), M)
    | none => none
  | _ => none
theorem xI_inv {x : qO} {hs : List (String × Int32)} {k : Int32 → PM → qO} {r : qRs × PM} (h : xI x hs k = some r) : (∃ v M, x = some (.inl (some (.int v)), M) ∧ k v M = some r) ∨ (∃ E w M, x = some (.inr E, M) ∧ (E, w) ∈ hs ∧ r = (.inl (some (.int w)), M)) := by
  unfold xI at h
  split at h
  · rename_i v M; exact Or.inl ⟨v, M, rfl, h⟩
  · rename_i E M
    split at h
    · rename_i q hq
      have h1 := List.find?_some hq
      have h2 := List.mem_of_find?_eq_some hq
      have h3 : q.1 = E := eq_of_beq h1
      subst h3
      exact Or.inr ⟨q.1, q.2, M, rfl, h2, (Option.some.inj h).symm⟩
    · cases h
  · cases h
def tV (x : qO) (k : PM → qO) : qO := match x with
  | some (.inl none, M) => k M
  | some (.inr E, M) => some (.inr E, M)
  | _ => none
theorem tV_inv {x : qO} {k : PM → qO} {r : qRs × PM} (h : tV x k = some r) : (∃ M, x = some (.inl none, M) ∧ k M = some r) ∨ ∃ E M, x = some (.inr E, M) ∧ r = (.inr E, M) := by
  unfold tV at h
  split at h
  · rename_i M
    exact Or.inl ⟨M, rfl, h⟩
  · rename_i E M
    exact Or.inr ⟨E, M, rfl, (Option.some.inj h).symm⟩
  · cases h
def qMath_max (own : String) (ix : Nat) : Prop := Cond.methodLink own ix Lib.Math.max.name ∈ qTT ∧ Cond.static Lib.Math.max.name ∈ qTT ∧ Cond.initialized "java/lang/Math" ∈ qTT ∧ ((Lib.Math.max.name, Lib.Math.max.code, 2, some .int) : qY) ∈ qMs
def qMath_min (own : String) (ix : Nat) : Prop := Cond.methodLink own ix Lib.Math.min.name ∈ qTT ∧ Cond.static Lib.Math.min.name ∈ qTT ∧ Cond.initialized "java/lang/Math" ∈ qTT ∧ ((Lib.Math.min.name, Lib.Math.min.code, 2, some .int) : qY) ∈ qMs
section EWX
variable {Y : qY} {g : qG} {X : qX} {Z : qZ} {pc : Nat} {L L' : List (Nat × Value)} {st : List Value} {M : PM}
theorem ew_aL {a : Nat} {v : Int32} (hd : decode Y.2.1 pc = .ok (.arraylength, 1)) (hk : mK M a < 3) (hv : v = nI (mN M a)) (k : EW Y g X Z (pc + 1) L (.int v :: st) M) : EW Y g X Z pc L (.ref a :: st) M := ew_alen hd hk (hv ▸ k)
theorem ew_mmax {ix : Nat} {x y v : Int32} (hd : decode Y.2.1 pc = .ok (.invokestatic ix, 3)) (hc : qMath_max Y.1.cls ix) (hv : v = if x < y then y else x) (hfr : 1 ≤ zn Z) (hlo : (st.map fun v => v.category).sum + 13 ≤ zl Z) (k : EW Y g X Z (pc + 3) L (.int v :: st) M) : EW Y g X Z pc L (.int y :: .int x :: st) M := by
  subst hv
  refine ⟨k.1, fun ok ad H locs cells slots ls I hs => ?_⟩
  obtain ⟨hx, hb, hml, hown, hr, hlk, hEx, hnm, hst, hF, hg0, hfr0, hlo0, hRc, hRs⟩ := id ok
  obtain ⟨h1, h2, h3, h4⟩ := hc
  have c1 := I.2.2.2.2.2.2.1
  have c2 := I.2.2.2.2.2.2.2
  have d2 := k.1
  exact va_mmax hx hb (hml.trans I.2.2.2.2.2.1.1.symm) hown (hF.word h1 _) (hF.word h2 _) (hF.word h3 _) (qF.code hF h4 _) (Nat.le_trans hfr hfr0) (by rw [rS_cat]; omega) (by omega) (by omega) hd (k.2 ok ad H locs cells slots ls I ⟨trivial, hs.2.2⟩)
theorem ew_mmin {ix : Nat} {x y v : Int32} (hd : decode Y.2.1 pc = .ok (.invokestatic ix, 3)) (hc : qMath_min Y.1.cls ix) (hv : v = if y < x then y else x) (hfr : 1 ≤ zn Z) (hlo : (st.map fun v => v.category).sum + 13 ≤ zl Z) (k : EW Y g X Z (pc + 3) L (.int v :: st) M) : EW Y g X Z pc L (.int y :: .int x :: st) M := by
  subst hv
  refine ⟨k.1, fun ok ad H locs cells slots ls I hs => ?_⟩
  obtain ⟨hx, hb, hml, hown, hr, hlk, hEx, hnm, hst, hF, hg0, hfr0, hlo0, hRc, hRs⟩ := id ok
  obtain ⟨h1, h2, h3, h4⟩ := hc
  have c1 := I.2.2.2.2.2.2.1
  have c2 := I.2.2.2.2.2.2.2
  have d2 := k.1
  exact va_mmin hx hb (hml.trans I.2.2.2.2.2.1.1.symm) hown (hF.word h1 _) (hF.word h2 _) (hF.word h3 _) (qF.code hF h4 _) (Nat.le_trans hfr hfr0) (by rw [rS_cat]; omega) (by omega) (by omega) hd (k.2 ok ad H locs cells slots ls I ⟨trivial, hs.2.2⟩)
theorem ew_topI {x v : Int32} (e : v = x) (k : EW Y g X Z pc L (.int v :: st) M) : EW Y g X Z pc L (.int x :: st) M := e ▸ k
theorem ew_topL {x v : Int64} (e : v = x) (k : EW Y g X Z pc L (.long v :: st) M) : EW Y g X Z pc L (.long x :: st) M := e ▸ k
theorem ew_gI {ix a : Nat} {fin : Bool} {v : Int32} (ci kk : Nat) (hd : decode Y.2.1 pc = .ok (.getfield ix, 3)) (hf : qFl Y.1.cls ix ci kk fin) (hk : mK M a = ci + 3) (hv : mF M a kk = .int v) (k : EW Y g X Z (pc + 3) L (.int v :: st) M) : EW Y g X Z pc L (.ref a :: st) M := ew_getfield ci kk hd hf hk (by rw [hv]; exact k)
theorem ew_gJ {ix a : Nat} {fin : Bool} {v : Int64} (ci kk : Nat) (hd : decode Y.2.1 pc = .ok (.getfield ix, 3)) (hf : qFl Y.1.cls ix ci kk fin) (hk : mK M a = ci + 3) (hv : mF M a kk = .long v) (k : EW Y g X Z (pc + 3) L (.long v :: st) M) : EW Y g X Z pc L (.ref a :: st) M := ew_getfield ci kk hd hf hk (by rw [hv]; exact k)
theorem ew_gR {ix a : Nat} {fin : Bool} {v : Nat} (ci kk : Nat) (hd : decode Y.2.1 pc = .ok (.getfield ix, 3)) (hf : qFl Y.1.cls ix ci kk fin) (hk : mK M a = ci + 3) (hv : mF M a kk = .ref v) (k : EW Y g X Z (pc + 3) L (.ref v :: st) M) : EW Y g X Z pc L (.ref a :: st) M := ew_getfield ci kk hd hf hk (by rw [hv]; exact k)
theorem ew_lI {a : Nat} {i : Int32} {v : Int32} (hd : decode Y.2.1 pc = .ok (.iaload, 1)) (hk : mK M a = 0) (hi : i = nI i.toNatClampNeg) (hj : i.toNatClampNeg < mN M a) (hv : v = mI M a i.toNatClampNeg) (k : EW Y g X Z (pc + 1) L (.int v :: st) M) : EW Y g X Z pc L (.int i :: .ref a :: st) M := ew_iaload _ hd hk hi hj (hv ▸ k)
theorem ew_lZ {a : Nat} {i : Int32} {v : Int32} (hd : decode Y.2.1 pc = .ok (.baload, 1)) (hk : mK M a = 1) (hi : i = nI i.toNatClampNeg) (hj : i.toNatClampNeg < mN M a) (hv : v = mI M a i.toNatClampNeg) (k : EW Y g X Z (pc + 1) L (.int v :: st) M) : EW Y g X Z pc L (.int i :: .ref a :: st) M := ew_zaload _ hd hk hi hj (hv ▸ k)
theorem ew_lL {a : Nat} {i : Int32} {v : Int64} (hd : decode Y.2.1 pc = .ok (.laload, 1)) (hk : mK M a = 2) (hi : i = nI i.toNatClampNeg) (hj : i.toNatClampNeg < mN M a) (hv : v = mL M a i.toNatClampNeg) (k : EW Y g X Z (pc + 1) L (.long v :: st) M) : EW Y g X Z pc L (.int i :: .ref a :: st) M := ew_laload _ hd hk hi hj (hv ▸ k)
theorem ew_wI {a : Nat} {i : Int32} {x : Int32} {M1 : PM} (hd : decode Y.2.1 pc = .ok (.iastore, 1)) (hk : mK M a = 0) (hi : i = nI i.toNatClampNeg) (hj : i.toNatClampNeg < mN M a) (hv : M1 = sI M a i.toNatClampNeg x) (k : EW Y g X Z (pc + 1) L st M1) : EW Y g X Z pc L (.int x :: .int i :: .ref a :: st) M := ew_iastore _ hd hk hi hj (hv ▸ k)
theorem ew_wZ {a : Nat} {i : Int32} {x : Int32} {M1 : PM} (hd : decode Y.2.1 pc = .ok (.bastore, 1)) (hk : mK M a = 1) (hi : i = nI i.toNatClampNeg) (hj : i.toNatClampNeg < mN M a) (hv : M1 = sI M a i.toNatClampNeg (vp_nar .boolean x)) (k : EW Y g X Z (pc + 1) L st M1) : EW Y g X Z pc L (.int x :: .int i :: .ref a :: st) M := ew_zastore _ hd hk hi hj (hv ▸ k)
theorem ew_wL {a : Nat} {i : Int32} {x : Int64} {M1 : PM} (hd : decode Y.2.1 pc = .ok (.lastore, 1)) (hk : mK M a = 2) (hi : i = nI i.toNatClampNeg) (hj : i.toNatClampNeg < mN M a) (hv : M1 = sL M a i.toNatClampNeg x) (k : EW Y g X Z (pc + 1) L st M1) : EW Y g X Z pc L (.long x :: .int i :: .ref a :: st) M := ew_lastore _ hd hk hi hj (hv ▸ k)
theorem ew_mA0 {i : Int32} {q : Nat} {M1 : PM} (hd : decode Y.2.1 pc = .ok (.newarray .int, 2)) (hi : i = nI i.toNatClampNeg) (hn : i.toNatClampNeg ≤ 67108864) (hq : q = mS M) (hM : M1 = nA M 0 i.toNatClampNeg) (k : EW Y g X Z (pc + 2) L (.ref q :: st) M1) : EW Y g X Z pc L (.int i :: st) M := by
  subst hq; subst hM
  exact ew_newarray_i _ hd hi hn k
theorem ew_mA1 {i : Int32} {q : Nat} {M1 : PM} (hd : decode Y.2.1 pc = .ok (.newarray .boolean, 2)) (hi : i = nI i.toNatClampNeg) (hn : i.toNatClampNeg ≤ 67108864) (hq : q = mS M) (hM : M1 = nA M 1 i.toNatClampNeg) (k : EW Y g X Z (pc + 2) L (.ref q :: st) M1) : EW Y g X Z pc L (.int i :: st) M := by
  subst hq; subst hM
  exact ew_newarray_z _ hd hi hn k
theorem ew_mA2 {i : Int32} {q : Nat} {M1 : PM} (hd : decode Y.2.1 pc = .ok (.newarray .long, 2)) (hi : i = nI i.toNatClampNeg) (hn : i.toNatClampNeg ≤ 67108864) (hq : q = mS M) (hM : M1 = nA M 2 i.toNatClampNeg) (k : EW Y g X Z (pc + 2) L (.ref q :: st) M1) : EW Y g X Z pc L (.int i :: st) M := by
  subst hq; subst hM
  exact ew_newarray_l _ hd hi hn k
theorem ew_mO {ix q : Nat} {M1 : PM} (ci : Nat) (hd : decode Y.2.1 pc = .ok (.new ix, 3)) (hf : qNw Y.1.cls ix ci) (hq : q = mS M) (hM : M1 = nO M ci) (k : EW Y g X Z (pc + 3) L (.ref q :: st) M1) : EW Y g X Z pc L st M := by
  subst hq; subst hM
  exact ew_new ci hd hf k
theorem ew_pF {ix a : Nat} {v : Value} {M1 : PM} (ci kk : Nat) (hd : decode Y.2.1 pc = .ok (.putfield ix, 3)) (hf : qFl Y.1.cls ix ci kk false) (hk : mK M a = ci + 3) (hM : M1 = sF M a kk v) (hfit : ∀ ad, narrow (qTy ci kk) (rV g ad v) = rV g ad v ∧ fits (qTy ci kk) (rV g ad v) = true) (k : EW Y g X Z (pc + 3) L st M1) : EW Y g X Z pc L (v :: .ref a :: st) M := by
  subst hM
  exact ew_putfield ci kk hd hf hk hfit k
theorem ew_pFF {ix a : Nat} {v : Value} {M1 : PM} (ci kk : Nat) (hd : decode Y.2.1 pc = .ok (.putfield ix, 3)) (hf : qFl Y.1.cls ix ci kk true) (hi : Y.1.name = "<init>") (hoc : ((qCl.getD ci ("", fun _ => ("", "", "", false), 0)).2.1 kk).1 = Y.1.cls) (hk : mK M a = ci + 3) (hM : M1 = sF M a kk v) (hfit : ∀ ad, narrow (qTy ci kk) (rV g ad v) = rV g ad v ∧ fits (qTy ci kk) (rV g ad v) = true) (k : EW Y g X Z (pc + 3) L st M1) : EW Y g X Z pc L (v :: .ref a :: st) M := by
  subst hM
  exact ew_putfieldF ci kk hd hf hi hoc hk hfit k
end EWX
end
section
def iR (x y : Int32) (k : Int32 → qO) : qO := if y = 0 then none else k (x - x / y * y)
theorem iR_inv {x y : Int32} {k : Int32 → qO} {r : qRs × PM} (h : iR x y k = some r) : ∃ v, ¬ y = 0 ∧ v = x - x / y * y ∧ k v = some r := by
  unfold iR at h
  split at h
  · cases h
  · exact ⟨_, by assumption, rfl, h⟩
def sc (xs : Nat → Int32) (Ls : Nat) (i : Int32) (k : Int32 → qO) : qO := if ¬ i < 0 ∧ i.toNatClampNeg < Ls then k (xs i.toNatClampNeg) else none
theorem sc_inv {xs : Nat → Int32} {Ls : Nat} {i : Int32} {k : Int32 → qO} {r : qRs × PM} (h : sc xs Ls i k = some r) : ∃ v, (¬ i < 0 ∧ i.toNatClampNeg < Ls) ∧ v = xs i.toNatClampNeg ∧ k v = some r := by
  unfold sc at h
  split at h
  · exact ⟨_, by assumption, rfl, h⟩
  · cases h
def tb (i : Int32) (k : Int64 → qO) : qO := if ¬ i < 0 ∧ i.toNatClampNeg < 6 then k (qCol i.toNatClampNeg) else none
theorem tb_inv {i : Int32} {k : Int64 → qO} {r : qRs × PM} (h : tb i k = some r) : ∃ v, (¬ i < 0 ∧ i.toNatClampNeg < 6) ∧ v = qCol i.toNatClampNeg ∧ k v = some r := by
  unfold tb at h
  split at h
  · exact ⟨_, by assumption, rfl, h⟩
  · cases h
def sA (M : PM) (a : Nat) (f : Nat → Int32) : PM := (mS M, mK M, mN M, va_up (mI M) a f, mL M, mF M, mC M, mT M)
abbrev cpOk (M : PM) (a0 : Nat) (sp : Int32) (a : Nat) (dp n : Int32) : Prop := mK M a0 = 0 ∧ mK M a = 0 ∧ ¬ sp < 0 ∧ ¬ dp < 0 ∧ ¬ n < 0 ∧ sp.toNatClampNeg + n.toNatClampNeg ≤ mN M a0 ∧ dp.toNatClampNeg + n.toNatClampNeg ≤ mN M a
def cp (M : PM) (a0 : Nat) (sp : Int32) (a : Nat) (dp n : Int32) (k : PM → qO) : qO := if cpOk M a0 sp a dp n then k (sA M a (va_cpy (mI M a0) (mI M a) sp.toNatClampNeg dp.toNatClampNeg n.toNatClampNeg)) else none
theorem cp_inv {M : PM} {a0 : Nat} {sp : Int32} {a : Nat} {dp n : Int32} {k : PM → qO} {r : qRs × PM} (h : cp M a0 sp a dp n k = some r) : ∃ M1, cpOk M a0 sp a dp n ∧ M1 = sA M a (va_cpy (mI M a0) (mI M a) sp.toNatClampNeg dp.toNatClampNeg n.toNatClampNeg) ∧ k M1 = some r := by
  unfold cp at h
  split at h
  · exact ⟨_, by assumption, rfl, h⟩
  · cases h
def qCp (own : String) (ix : Nat) : Prop := Cond.methodLink own ix arraycopyName ∈ qTT ∧ Cond.native arraycopyName ∈ qTT ∧ Cond.static arraycopyName ∈ qTT ∧ Cond.initialized "java/lang/System" ∈ qTT
def qGs (own : String) (ix : Nat) : Prop := (Cond.fieldLink own ix "FlushProofs" "COLUMNS" "[J" ∈ qTT) ∨ ∃ host, Cond.fieldLinkNest own ix "FlushProofs" "COLUMNS" "[J" host ∈ qNN
section EWM
variable {Y : qY} {g : qG} {X : qX} {Z : qZ} {pc : Nat} {L L' : List (Nat × Value)} {st : List Value} {M : PM}
theorem ew_irem {x y v : Int32} (hd : decode Y.2.1 pc = .ok (.irem, 1)) (hy : ¬ y = 0) (hv : v = x - x / y * y) (k : EW Y g X Z (pc + 1) L (.int v :: st) M) : EW Y g X Z pc L (.int y :: .int x :: st) M := by
  subst hv
  exact ew_op k (fun _ _ h => ⟨trivial, h.2.2⟩) (fun ok ad H locs cells slots ls _ K => lv_irem ok.1 ok.2.1 hd hy K)
theorem ew_ldc2 {ix : Nat} (v : Int64) (hd : decode Y.2.1 pc = .ok (.ldc2_w ix, 3)) (hc : Cond.constantLong Y.1.cls ix v ∈ qTT) (k : EW Y g X Z (pc + 3) L (.long v :: st) M) : EW Y g X Z pc L st M :=
  ew_op k (fun _ _ h => ⟨trivial, h⟩) (fun ok ad H locs cells slots ls _ K => lv_ldc2 ok.1 ok.2.1 ok.2.2.2.1 (ok.2.2.2.2.2.2.2.2.2.1.word hc _) hd K)
theorem ew_ldc {ix : Nat} (v : Int32) (hd : decode Y.2.1 pc = .ok (.ldc ix, 2)) (hc : Cond.constant Y.1.cls ix v ∈ qTT) (k : EW Y g X Z (pc + 2) L (.int v :: st) M) : EW Y g X Z pc L st M :=
  ew_op k (fun _ _ h => ⟨trivial, h⟩) (fun ok ad H locs cells slots ls _ K => lv_ldc ok.1 ok.2.1 ok.2.2.2.1 (ok.2.2.2.2.2.2.2.2.2.1.word hc _) hd K)
theorem ew_slen {xs : Nat → Int32} {Ls : Nat} (hxs : g.2.2.2.1.2 = (Ls, xs)) (hd : decode Y.2.1 pc = .ok (.arraylength, 1)) (k : EW Y g X Z (pc + 1) L (.int (nI Ls) :: st) M) : EW Y g X Z pc L (.retAddr 0 :: st) M := by
  refine ⟨k.1, fun ok ad H locs cells slots ls I hs => ?_⟩
  obtain ⟨hx, hb, hml, hown, hr, hlk, hEx, hnm, hst, hF, hg0, hfr0, hlo0, hRc, hRs⟩ := id ok
  have hX := hF.2.2.2.2.2.2.2.2.2.1
  have hA := hF.2.2.2.2.2.2.2.2.2.2
  have e1 : g.2.2.2.1.2.1 = Ls := by rw [hxs]
  rw [e1] at hX
  exact va_slen hx hb hX hX.at hA I.2.2.2.2.1 hd (k.2 ok ad H locs cells slots ls I ⟨trivial, hs.2⟩)
theorem ew_sld {xs : Nat → Int32} {Ls : Nat} {i v : Int32} (hxs : g.2.2.2.1.2 = (Ls, xs)) (hd : decode Y.2.1 pc = .ok (.iaload, 1)) (hi : ¬ i < 0 ∧ i.toNatClampNeg < Ls) (hv : v = xs i.toNatClampNeg) (k : EW Y g X Z (pc + 1) L (.int v :: st) M) : EW Y g X Z pc L (.int i :: .retAddr 0 :: st) M := by
  subst hv
  refine ⟨k.1, fun ok ad H locs cells slots ls I hs => ?_⟩
  obtain ⟨hx, hb, hml, hown, hr, hlk, hEx, hnm, hst, hF, hg0, hfr0, hlo0, hRc, hRs⟩ := id ok
  have hX := hF.2.2.2.2.2.2.2.2.2.1
  have hA := hF.2.2.2.2.2.2.2.2.2.2
  have e1 : g.2.2.2.1.2.1 = Ls := by rw [hxs]
  have e2 : g.2.2.2.1.2.2 = xs := by rw [hxs]
  rw [e1, e2] at hX
  exact va_sld hx hb hX hX.at hA I.2.2.2.2.1 (fun z => z.elim hi.1 (fun z => absurd hi.2 (Nat.not_lt.mpr z))) hd (k.2 ok ad H locs cells slots ls I ⟨trivial, hs.2.2⟩)
theorem ew_gets {ix : Nat} (hd : decode Y.2.1 pc = .ok (.getstatic ix, 3)) (hc : qGs Y.1.cls ix) (k : EW Y g X Z (pc + 3) L (.retAddr 1 :: st) M) : EW Y g X Z pc L st M := by
  refine ⟨k.1, fun ok ad H locs cells slots ls I hs => ?_⟩
  obtain ⟨hx, hb, hml, hown, hr, hlk, hEx, hnm, hst, hF, hg0, hfr0, hlo0, hRc, hRs⟩ := id ok
  have hZ := hF.2.2.2.2.2.2.2.1
  rcases hc with hc | ⟨host, hc⟩
  · exact va_gets hx hb hZ I.2.2.2.2.1 hown (hF.word hc _) (fun _ h => h) hd (k.2 ok ad H locs cells slots ls I ⟨trivial, hs⟩)
  · exact va_getsN hx hb hZ I.2.2.2.2.1 hown (va_Nw.use rfl (hF.2.1 _ hc)) (fun _ h => h) hd (k.2 ok ad H locs cells slots ls I ⟨trivial, hs⟩)
theorem ew_tld {i : Int32} {v : Int64} (hd : decode Y.2.1 pc = .ok (.laload, 1)) (hi : ¬ i < 0 ∧ i.toNatClampNeg < 6) (hv : v = qCol i.toNatClampNeg) (k : EW Y g X Z (pc + 1) L (.long v :: st) M) : EW Y g X Z pc L (.int i :: .retAddr 1 :: st) M := by
  subst hv
  refine ⟨k.1, fun ok ad H locs cells slots ls I hs => ?_⟩
  obtain ⟨hx, hb, hml, hown, hr, hlk, hEx, hnm, hst, hF, hg0, hfr0, hlo0, hRc, hRs⟩ := id ok
  have hT := hF.2.2.2.2.2.2.2.2.1
  exact va_tl hx hb hT I.2.2.2.2.1 (fun z => z.elim hi.1 (fun z => absurd hi.2 (Nat.not_lt.mpr z))) rfl hd (k.2 ok ad H locs cells slots ls I ⟨trivial, hs.2.2⟩)
theorem rW_sA {ad : Nat → Nat} {a : Nat} {f : Nat → Int32} (hk : mK M a = 0) : (rW g ad M).set a (ad a, .inl (g.2.2.1.1, mN M a, .inl f)) = rW g ad (sA M a f) := by
  have e : rE g ad (sA M a f) a = .inl (g.2.2.1.1, mN M a, .inl f) := by
    rw [rE_0 (M := sA M a f) hk]
    show Sum.inl (g.2.2.1.1, mN M a, Sum.inl (va_up (mI M) a f a)) = _
    rw [va_up_self]
  rw [← e]
  exact rW_set rfl (fun i hi => rE_congr rfl rfl (va_up_ne _ _ hi) rfl rfl)
theorem ew_cp {ix a0 a : Nat} {sp dp n : Int32} {M1 : PM} (hd : decode Y.2.1 pc = .ok (.invokestatic ix, 3)) (hc : qCp Y.1.cls ix) (hok : cpOk M a0 sp a dp n) (hM : M1 = sA M a (va_cpy (mI M a0) (mI M a) sp.toNatClampNeg dp.toNatClampNeg n.toNatClampNeg)) (hfr : 1 ≤ zn Z) (hlo : (st.map fun v => v.category).sum + (nativeFrameWords "java/lang/System" "arraycopy" 5 + 11) ≤ zl Z) (k : EW Y g X Z (pc + 3) L st M1) : EW Y g X Z pc L (.int n :: .int dp :: .ref a :: .int sp :: .ref a0 :: st) M := by
  subst hM
  refine ⟨k.1, fun ok ad H locs cells slots ls I hs => ?_⟩
  obtain ⟨hx, hb, hml, hown, hr, hlk, hEx, hnm, hst, hF, hg0, hfr0, hlo0, hRc, hRs⟩ := id ok
  obtain ⟨h1, h2, h3, h4⟩ := hc
  obtain ⟨k0, k1, g1, g2, g3, g4, g5⟩ := hok
  have ha : a < mS M := hs.2.2.1
  have ha0 : a0 < mS M := hs.2.2.2.2.1
  have he0 : (rW g ad M)[a0]? = some (ad a0, .inl (g.2.2.1.1, mN M a0, .inl (mI M a0))) := by rw [rW_get ha0, rE_0 k0]
  have he1 : (rW g ad M)[a]? = some (ad a, .inl (g.2.2.1.1, mN M a, .inl (mI M a))) := by rw [rW_get ha, rE_0 k1]
  refine va_copyi hx hb (hml.trans I.2.2.2.2.2.1.1.symm) hown (hF.word h1 _) (hF.word h2 _) (hF.word h3 _) (hF.word h4 _) hF.2.2.1 I.2.1.1 I.2.1.2 I.2.2.2.2.1 a0 a 0 0 he0 he1 rfl rfl rfl g1 g2 g3 g4 g5 (fun _ _ => rfl) (Nat.le_trans hfr hfr0) (by rw [rS_cat]; omega) hd ?_
  rw [rW_sA k1]
  intro H1 locs1 p1 d1 s1
  exact k.2 ok ad H1 locs1 cells slots ls ⟨I.1, ⟨p1, d1⟩, I.2.2.1, I.2.2.2.1, s1, I.2.2.2.2.2⟩ hs.2.2.2.2.2
end EWM
end
section
/-! THE PURE MACHINE: methods that throw -/
section QX
variable {p : Program} {l : Launch} {e : Env} {R : Room} {s : State} {m : MethodId} {args : Array Value} {below : List Frame} {meth : Method} {c : Code} {U : State} {locs : List Loc} {cells slots : Nat}
/-- a callee by its contract, from the invocation on: it comes back with an answer, or with a throw over the caller's frame -/
theorem qx_go (X : Stand p l e R s m args below meth c U locs cells slots) {y : MethodName} {ws : List Cond} {rm : Room} {P : Array Value → State → Prop} {g0 : qG} {ad : Nat → Nat} {M M' : PM} {res : Option Value ⊕ String} {a : Array Value}
    (hM : MetFree l y (headSpec ws rm) P (fun _ _ _ _ _ => True) (fun _ st o t => qEd g0 ad M res M' st o t))
    (hfr : rm.frames + 1 ≤ R.frames) {maxL : Nat} (hlo : 8 + (maxL + 11) + rm.locals ≤ R.locals) (h4 : cells + rm.cells ≤ R.cells) (h5 : slots + rm.slots ≤ R.slots) (h1 : ∀ w ∈ ws, w.before a U = true)
    {g : JFrame} (hg : g.method = m) (hsize : g.locals.size = c.maxLocals) {ig : Instr} (hdg : decode c.code g.pc = .ok (ig, 3)) (hW : 2 * g.monitorRoom + (g.stack.map fun v => v.category).sum ≤ 8)
    {mk : MethodId} (hn : U.methodNamed? y = some mk) {methY : Method} {cY : Code} (hmY : U.vm.method? mk = some methY) (hcY : methY.code = some cY) (hlY : cY.maxLocals = maxL) (h3 : (Cond.initialized y.cls).before a U = true) (hP : P a (U.calling g mk a)) :
    ∃ (t U' : State) (L : List Loc), U'.heap = t.heap ∧ U'.vm = t.vm ∧ Stand p l e R s m args below meth c U' (locs ++ L) (cells + (mC M' - mC M)) (slots + (mT M' - mT M)) ∧ (∀ z ∈ L, qA g0 z.base) ∧
      ((∃ v, qEd g0 ad M res M' (U.calling g mk a) (.returned v) t ∧ Steps p.tables e below (doInvoke e (U.setTop g) [] mk a).1 (U'.setTop { g with pc := g.pc + 3, stack := v.toList ++ g.stack })) ∨
       (∃ q, qEd g0 ad M res M' (U.calling g mk a) (.threw q) t ∧ Steps p.tables e below (doInvoke e (U.setTop g) [] mk a).1 ((U'.setTop g).pushFrame (.throwing q)))) := by
  have hat : At U g.method c below := by rw [hg]; exact X.here
  obtain ⟨kY, hkY, -⟩ := className_of_methodNamed hn
  have hroom := X.room_calling (g := g) (R' := (headSpec ws rm).room) (args' := a) hsize hmY hcY hfr (by rw [hlY]; show _ + rm.locals ≤ _; omega) h4 h5
  have happ := Spec.appliesLoose_calling (S := headSpec ws rm) (g := g) hat hdg hn hkY (Cond.initialized_spec (findClass_of_methodNamed hn) hkY h3) hroom (atoms_intro h1)
  obtain ⟨mid, hmid⟩ := hat.above
  have hfs : (U.setTop g).frames = (.java g :: mid) ++ below := by rw [State.frames_setTop' g hat.top, hmid]; rfl
  obtain ⟨o, z, hsteps, -, hend, hq⟩ := Steps.callFree hM p X.admits X.cas X.clock (acts := []) hfs happ hP trivial
  have hq' : qEd g0 ad M res M' (U.calling g mk a) o z := hq
  rw [State.frames_setTop' g hat.top] at hend
  obtain ⟨g₀, hg0⟩ := Option.isSome_iff_exists.mp hat.top
  obtain ⟨r, hr⟩ := State.topJava?_eq_some.mp hg0
  have hr' : (({ U with heap := z.heap, slotsUsed := z.slotsUsed } : State).setVm z.vm).frames = .java g₀ :: r := hr
  -- either way: what the callee's frame leaves
  have key : ∀ L, (U.calling g mk a).WarmedH z.vm → (U.calling g mk a).sameButNew ({ z with vm := (U.calling g mk a).vm } : State) L (mC M' - mC M) (mT M' - mT M) →
      z = ({ (U.calling g mk a).setFrames z.frames with heap := z.heap, slotsUsed := z.slotsUsed } : State).setVm z.vm ∧
      Stand p l e R s m args below meth c (({ U with heap := z.heap, slotsUsed := z.slotsUsed } : State).setVm z.vm) (locs ++ L) (cells + (mC M' - mC M)) (slots + (mT M' - mT M)) := by
    intro L hwm hsm
    obtain ⟨e2, q2, q3, q4, q5, q6⟩ := hsm
    have hW' : U.WarmedH z.vm := hwm
    have hsame : U.sameButNew ({ U with heap := z.heap, slotsUsed := z.slotsUsed } : State) L (mC M' - mC M) (mT M' - mT M) := by
      refine ⟨?_, q2, q3, q4, q5, q6⟩
      obtain ⟨t, ht, -⟩ := State.frames_cons hr
      show ({ U with heap := z.heap, slotsUsed := z.slotsUsed } : State) = { U.setFrames U.frames with heap := z.heap, slotsUsed := z.slotsUsed }
      rw [State.setFrames_self ht]
    refine ⟨?_, ⟨X.admits, X.cas, X.clock, X.frames, X.room, X.hears, X.method, X.code, ?_, X.tail, State.WarmedH.trans X.warmed hW', X.limits, X.bytes, X.same.trans (hsame.setVm s.vm)⟩⟩
    · have : z = ({ z with vm := (U.calling g mk a).vm } : State).setVm z.vm := rfl
      rw [e2] at this
      exact this
    · subst hg
      exact (X.here.setHeapUsed z.heap z.slotsUsed).setVm hW'.alike
  rcases id hq' with ⟨-, -, L, ⟨⟨v, hv⟩, hwm, hsm⟩, hL⟩ | ⟨E, q, ce, L, ad', -, ho, -, -, -, -, -, -, -, hwm, hsm, hL⟩
  · subst hv
    obtain ⟨ez, hS⟩ := key L hwm hsm
    obtain ⟨c₂, i₂, len₂, hc₂, hd₂, hf₂⟩ := hend
    have hW' : U.WarmedH z.vm := hwm
    have hcc : c₂ = c := by
      have h1 : z.code? g.method = U.code? g.method := by rw [State.code?_eq, State.code?_eq, hW'.alike.method?]
      exact Option.some.inj (hc₂.symm.trans (h1.trans hat.code))
    subst hcc
    have hlen : len₂ = 3 := by rw [hdg] at hd₂; cases hd₂; rfl
    subst hlen
    refine ⟨z, ({ U with heap := z.heap, slotsUsed := z.slotsUsed } : State).setVm z.vm, L, rfl, rfl, hS, hL, Or.inl ⟨v, hq', ?_⟩⟩
    have hz : z = (({ U with heap := z.heap, slotsUsed := z.slotsUsed } : State).setVm z.vm).setTop { g with pc := g.pc + 3, stack := v.toList ++ g.stack } := by
      refine ez.trans ?_
      rw [hf₂, State.calling_eq hat.top, State.setFrames_setFrames, State.setTop_of_frames _ hr', hr]
      rfl
    rw [← hz]
    exact hsteps
  · subst ho
    obtain ⟨ez, hS⟩ := key L hwm hsm
    have hf₂ : z.frames = .throwing q :: .java g :: U.frames.tail := hend
    refine ⟨z, ({ U with heap := z.heap, slotsUsed := z.slotsUsed } : State).setVm z.vm, L, rfl, rfl, hS, hL, Or.inr ⟨q, hq', ?_⟩⟩
    have hz : z = ((({ U with heap := z.heap, slotsUsed := z.slotsUsed } : State).setVm z.vm).setTop g).pushFrame (.throwing q) := by
      refine ez.trans ?_
      rw [hf₂, State.calling_eq hat.top, State.setFrames_setFrames, State.pushFrame, State.frames_setTop _ hr', State.setTop_of_frames _ hr', State.setFrames_setFrames, hr]
      rfl
    rw [← hz]
    exact hsteps
end QX
section EWX2
variable {Y : qY} {g : qG} {X : qX} {Z : qZ} {pc : Nat} {L L' : List (Nat × Value)} {st : List Value} {M : PM}
/-- what becomes of a throw over this method's frame: the rest of the walk -/
def qFin (Y : qY) (g : qG) (X : qX) (Z : qZ) (pc : Nat) (L : List (Nat × Value)) (M M' : PM) (E : String) : Prop :=
  (mC M' ≤ mC (zf Z) ∧ mT M' ≤ mT (zf Z) ∧ mS M' ≤ mS (zf Z)) ∧ ∀ (ad ad1 : Nat → Nat) (H : Heap) (locs Lc : List Loc) (cells slots : Nat) (ls : Array Slot) (U' : State) (q : Addr) (ce : Cell) (stk : List Value),
    qOk Y g X Z → qIn Y g X Z L M ad H locs cells slots ls → (mC M ≤ mC M' ∧ mT M ≤ mT M' ∧ mS M ≤ mS M') →
    Stand (xp X) (xl X) (xe X) (xR X) (xs X) (xm X) (xa X) (xb X) (xh X) (xc X) U' (locs ++ Lc) (cells + (mC M' - mC M)) (slots + (mT M' - mT M)) → (∀ z ∈ Lc, qA g z.base) →
    (∀ k, k < mS M → ad1 k = ad k) → qR g ad1 M' U'.heap → wfM M' → H.size ≤ U'.heap.size → (∀ q : Nat, q < H.size → ¬ qA g q → U'.heap[q]? = H[q]?) → U'.heap[q]? = some ce → ce.vm = .none → (xs X).vm.findClass E = some ce.cls →
    ∃ t, Steps (xp X).tables (xe X) (xb X) ((U'.setTop (F0 (xm X) pc ls stk)).pushFrame (.throwing q)) t ∧ ∃ o, t.status = .running ∧ Ended t (xb X) o ∧ qEd g (za Z) (z0 Z) (zr Z) (zf Z) (xs X) o t
theorem qHd_nil {t : List ExceptionTableEntry} (h : t.map (fun h => (h.startPc, h.endPc, h.handlerPc, h.catchType)) = []) : ∀ x ∈ t, False := by
  intro x hx
  rw [List.map_eq_nil_iff.mp h] at hx
  cases hx
/-- nobody here catches it: it is the method's own end -/
theorem ew_leave {E : String} {M' : PM} (h0 : qHd Y = []) (hz : zr Z = .inr E) (hm : zf Z = M') : qFin Y g X Z pc L M M' E := by
  refine ⟨by rw [hm]; exact ⟨Nat.le_refl _, Nat.le_refl _, Nat.le_refl _⟩, fun ad ad1 H locs Lc cells slots ls U' q ce stk ok I hle X' hL hag hR hw hF1 hF2 hce hv hcl => ?_⟩
  obtain ⟨hx, hb, hml, hown, hr, hlk, hEx, hnm, hst, hF, hg0, hfr0, hlo0, hRc, hRs⟩ := id ok
  have c1 := I.2.2.2.2.2.2.1
  have c2 := I.2.2.2.2.2.2.2
  have S := I.2.2.2.2.1
  obtain ⟨st1, hrun, hend, hWm, hsm⟩ := X'.leaveThrown q (g := F0 (xm X) pc ls stk) rfl rfl rfl (fun x hx => (qHd_nil (hEx.trans h0) x hx).elim) hlk
  have hz1 : mC (zf Z) = mC M' := by rw [hm]
  have hz2 : mT (zf Z) = mT M' := by rw [hm]
  refine ⟨_, st1, .threw q, hrun, hend, Or.inr ⟨E, q, ce, locs ++ Lc, ad1, hz, rfl, fun k hk => (hag k (Nat.lt_of_lt_of_le hk I.1.1)).trans (I.1.2 k hk), by rw [hm]; exact hR, by rw [hm]; exact hw, ?_, hce, hv, hcl, hWm, hsm.mono (by omega) (by omega), ?_⟩⟩
  · exact ⟨Nat.le_trans S.1 hF1, fun q h1 h2 => (hF2 q (Nat.lt_of_lt_of_le h1 S.1) h2).trans (S.2.1 q h1 h2)⟩
  · exact fun z hz => (List.mem_append.mp hz).elim (S.2.2 z) (hL z)
/-- at pc the throw of an E is caught by a handler of this method: which, where, and its first instruction, that lays the object by -/
def qCa (Y : qY) (pc : Nat) (E : String) (hp ln : Nat) : Prop := ∃ (pre : List (Nat × Nat × Nat × Nat)) (x : Nat × Nat × Nat × Nat) (rest : List (Nat × Nat × Nat × Nat)),
  qHd Y = pre ++ x :: rest ∧ x.2.2.1 = hp ∧ x.1 ≤ pc ∧ pc < x.2.1 ∧ x.2.2.2 ≠ 0 ∧ Cond.classLink Y.1.cls x.2.2.2 E ∈ lw_tbl ∧ Cond.castable E E ∈ lw_tbl ∧
  (∀ y ∈ pre, y.2.2.2 ≠ 0 ∧ ∃ nm, Cond.classLink Y.1.cls y.2.2.2 nm ∈ lw_tbl ∧ (E, nm) ∈ qNc) ∧
  ((∃ n : Fin 4, decode Y.2.1 hp = .ok (.astore_n n, 1) ∧ (n : Nat) < Y.2.2.1 ∧ ln = 1) ∨ (∃ i : Nat, decode Y.2.1 hp = .ok (.astore i, 2) ∧ i < Y.2.2.1 ∧ ln = 2))
theorem ew_caught {E : String} {M' : PM} {hp ln : Nat} (hct : qCa Y pc E hp ln) (k : EW Y g X Z (hp + ln) [] [] M') : qFin Y g X Z pc L M M' E := by
  refine ⟨k.1, fun ad ad1 H locs Lc cells slots ls U' q ce stk ok I hle X' hL hag hR hw hF1 hF2 hce hv hcl => ?_⟩
  obtain ⟨hx, hb, hml, hown, hr, hlk, hEx, hnm, hst, hF, hg0, hfr0, hlo0, hRc, hRs⟩ := id ok
  obtain ⟨pre, x, rest, h1, h2, h3, h4, h5, h6, h7, h8, h9⟩ := hct
  subst h2
  have c1 := I.2.2.2.2.2.2.1
  have c2 := I.2.2.2.2.2.2.2
  have S := I.2.2.2.2.1
  rw [h1] at hEx
  obtain ⟨preE, restE0, e1, e2, e3⟩ := List.map_eq_append_iff.mp hEx
  obtain ⟨xE, restE, e4, e5, e6⟩ := List.map_eq_cons_iff.mp e3
  subst e4
  have hall : ∀ w ∈ lw_tbl, qGw w = true → w.before (xa X) (xs X) = true := fun w hw hg => qGw_at (State.WarmedH.refl _) hg (hF.2.2.2.1.1 w hw hg)
  have f1 : xE.startPc = x.1 := by rw [← e5]
  have f2 : xE.endPc = x.2.1 := by rw [← e5]
  have f3 : xE.handlerPc = x.2.2.1 := by rw [← e5]
  have f4 : xE.catchType = x.2.2.2 := by rw [← e5]
  have hpl : (xe X).platform.magicAccessors = ({} : Platform).magicAccessors := by rw [X'.admits.platform]
  have hcast : (xs X).vm.assignable ce.cls ce.cls = true := by
    obtain ⟨c9, t9, q1, q2, q3⟩ := Cond.castable_spec (hall _ h7 rfl)
    cases Option.some.inj (hcl.symm.trans q1)
    cases Option.some.inj (hcl.symm.trans q2)
    exact q3
  have hcx : xE.catchType ≠ 0 := by rw [f4]; exact h5
  obtain ⟨hend, hk0⟩ := X'.catches_of_link (own := Y.1.cls) (name := E) hown (x := xE) hcx (by rw [f4]; exact hall _ h6 rfl) (cT := ce.cls) (thrown := ce.cls) hcl hcast
  obtain ⟨vm', XV, hsteps⟩ := X'.thenCaughtThrough q (g := F0 (xm X) pc ls stk) rfl (Steps.refl _) hce (by rw [hv]; rfl) hk0 preE xE restE e1
    (fun y hy => by
      obtain ⟨g1, nm, g2, g3⟩ := h8 _ (by rw [← e2]; exact List.mem_map_of_mem hy)
      obtain ⟨c9, t9, q1, q2, q3⟩ := hF.2.2.2.1.2 _ g3
      obtain ⟨c8, q4, q5⟩ := Cond.classLink_spec hown (hall _ g2 rfl) (xe X).platform hpl
      cases Option.some.inj (hcl.symm.trans q1)
      cases Option.some.inj (q2.symm.trans q4)
      exact Or.inr ⟨g1, t9, q5, q3⟩)
    (by
      have : (decide (xE.startPc ≤ pc) && decide (pc < xE.endPc)) = true := by rw [f1, f2, decide_eq_true h3, decide_eq_true h4]; rfl
      exact this) hend
  have hnil : lv_has ls Y.2.2.1 [] := ⟨I.2.2.2.2.2.1.1, I.2.2.2.2.2.1.2.1, fun q hq => (by cases hq)⟩
  have go : ∀ ls' : Array Slot, lv_has ls' Y.2.2.1 [] → qW g X Z U'.heap (locs ++ Lc) (cells + (mC M' - mC M)) (slots + (mT M' - mT M)) (F0 (xm X) (x.2.2.1 + ln) ls' []) := fun ls' h' =>
    k.2 ok ad1 U'.heap (locs ++ Lc) (cells + (mC M' - mC M)) (slots + (mT M' - mT M)) ls'
      ⟨⟨Nat.le_trans I.1.1 hle.2.2, fun j hj => (hag j (Nat.lt_of_lt_of_le hj I.1.1)).trans (I.1.2 j hj)⟩, hR, hw, fun q hq => (by cases hq),
        ⟨Nat.le_trans S.1 hF1, fun q h1 h2 => (hF2 q (Nat.lt_of_lt_of_le h1 S.1) h2).trans (S.2.1 q h1 h2), fun q hq => (List.mem_append.mp hq).elim (S.2.2 q) (hL q)⟩, h', by omega, by omega⟩ trivial
  have sub : ∀ {ls' : Array Slot} {l9 : List (Nat × Value)}, lv_has ls' Y.2.2.1 l9 → lv_has ls' Y.2.2.1 [] := fun h' => ⟨h'.1, h'.2.1, fun q hq => (by cases hq)⟩
  have K : qW g X Z U'.heap (locs ++ Lc) (cells + (mC M' - mC M)) (slots + (mT M' - mT M)) (F0 (xm X) x.2.2.1 ls [.ref q]) := by
    rcases h9 with ⟨n, dn, hn, hl⟩ | ⟨i, dn, hn, hl⟩
    · subst hl
      exact lv_astore_n hx hb dn rfl hnil hn rfl (fun ls' h' => go ls' (sub h'))
    · subst hl
      exact lv_astore hx hb dn hnil hn rfl (fun ls' h' => go ls' (sub h'))
  obtain ⟨t2, a1, b1⟩ := K (U'.setVm vm') rfl XV
  rw [← f3] at a1
  exact ⟨t2, hsteps.trans a1, b1⟩
theorem ew_callVx {Y' : qY} {ix b fr' lo' : Nat} {E : String} {M' : PM} {stk : List Value} (ci : Nat) (As : List Value) (hd : decode Y.2.1 pc = .ok (.invokevirtual ix, 3)) (hc : qCv Y.1.cls ix ci Y' As.length) (hl9 : Cond.methodLink Y.1.cls ix Y'.1 ∈ qTT) (ht : CT Y' fr' lo' (.ref b :: As) M (.inr E) M') (hk : mK M b = ci + 3) (hfr : fr' + 1 ≤ zn Z) (hlo : 8 + (Y'.2.2.1 + 11) + lo' ≤ zl Z) (h8 : (st.map fun v => v.category).sum ≤ 8) (hstk : As.reverse ++ .ref b :: st = stk) (fin : qFin Y g X Z pc L M M' E) : EW Y g X Z pc L stk M := by
  subst hstk
  refine ⟨⟨Nat.le_trans (ht.1 g X).1 fin.1.1, Nat.le_trans (ht.1 g X).2.1 fin.1.2.1, Nat.le_trans (ht.1 g X).2.2 fin.1.2.2⟩, fun ok ad H locs cells slots ls I hs => ?_⟩
  obtain ⟨hx, hb, hml, hown, hr, hlk, hEx, hnm, hst, hF, hg0, hfr0, hlo0, hRc, hRs⟩ := id ok
  obtain ⟨hcb, ⟨T9, N9, hcl⟩, hin, hsel, -⟩ := hc
  obtain ⟨w1, w2⟩ := wfS_rev hs
  have c1 := I.2.2.2.2.2.2.1
  have c2 := I.2.2.2.2.2.2.2
  have d1 := ht.1 g X
  have hz1 := fin.1
  have hM := ht.2 (xl X) g ad hst I.2.2.1 ⟨w2.1, w1⟩
  have he : (rW g ad M)[b]? = some (ad b, .inr (ci, (List.range (qNf ci)).map (fun j => rV g ad (mF M b j)))) := by rw [rW_get w2.1, rE_3 hk]
  obtain ⟨cellB, hcB, hoB, hclB⟩ := va_recv hF.2.2.1 I.2.1.1 hcl he
  have hcode := qF.code hF hcb.1 (xa X)
  have hyc : Y'.1.cls ≠ "java/lang/invoke/MethodHandle" ∧ Y'.1.cls ≠ "java/lang/invoke/VarHandle" := ⟨hcb.2.2.1, hcb.2.2.2.1⟩
  have hstack : (F0 (xm X) pc ls ((As.reverse ++ Value.ref b :: st).map (rV g ad))).stack = (As.map (rV g ad)).reverse ++ .ref (ad b) :: st.map (rV g ad) := by
    show (As.reverse ++ Value.ref b :: st).map (rV g ad) = _
    rw [List.map_append, List.map_reverse]
    rfl
  intro T hT X0
  obtain ⟨mk, methM, hnamed, hmethM, hstM, habM⟩ := Cond.instanceMethod_spec (hF.word hin (xa X))
  obtain ⟨methM', cM, hmethM', hcM, -, hlM, -, -, -, hsigM⟩ := Cond.code_spec hnamed hcode
  cases hmethM.symm.trans hmethM'
  obtain ⟨c2', r2, m2, q1, q2, q3, q4, kP, hkP, hkPi⟩ := Cond.selects_spec (hF.word hsel (xa X))
  cases hclB.symm.trans q1
  cases (State.methodFound?_of_named hnamed hyc).symm.trans q2
  cases hnamed.symm.trans q3
  have hselP : selectMethod (xe X).platform (xs X).vm cellB.cls mk = .method mk := by rw [Launch.admits_selectMethod X0.admits]; exact q4
  have hlen : (As.map (rV g ad)).length = methM.sig.parameters.length := by
    have h9 := hcb.2.2.2.2
    rw [hsigM] at h9
    rw [List.length_map]
    exact (Option.some.inj h9).symm
  obtain ⟨vm₁, X₁, hstep₁⟩ := X0.invokevirtual hx hown (hF.word hl9 _) hnamed hmethM hstM hkP hkPi hyc (a := ad b) (cell := cellB) (by rw [hT]; exact hcB) (fun z h => by rw [h] at hoB; cases hoB) hselP hmethM habM hkP hkPi (g := F0 (xm X) pc ls ((As.reverse ++ Value.ref b :: st).map (rV g ad))) rfl (argsL := As.map (rV g ad)) (rest := st.map (rV g ad)) hlen hstack (by rw [hb]; exact hd)
  have hPc := qPre_blind (As := Value.ref b :: As) (g := g) (ad := ad) (M0 := M) (a := ((Value.ref b :: As).map (rV g ad)).toArray) (U := T.setVm vm₁) (F0 (xm X) pc ls (st.map (rV g ad))) mk (qPre_at (As := Value.ref b :: As) ok I (T.setVm vm₁) hT X₁.warmed)
  obtain ⟨t, U', Lc, e1, e2, X', hL, hcase⟩ := qx_go X₁ (a := ((Value.ref b :: As).map (rV g ad)).toArray) hM (Nat.le_trans hfr hfr0) (maxL := Y'.2.2.1) (Nat.le_trans hlo hlo0) (by show cells + (mC M' - mC M) ≤ _; omega) (by show slots + (mT M' - mT M) ≤ _; omega)
    (fun w hw => by rw [List.mem_singleton.mp hw]; exact word_at X₁.warmed (Or.inl rfl) hcode) (g := F0 (xm X) pc ls (st.map (rV g ad))) rfl (I.2.2.2.2.2.1.1.trans hml.symm) (by rw [hb]; exact hd) (lv_room (by rw [rS_cat]; exact h8)) (X₁.named hnamed) (by show (T.setVm vm₁).vm.method? mk = _; rw [X₁.warmed.alike.method?]; exact hmethM) hcM hlM (word_at X₁.warmed (good_of_word (qTT_good _ hcb.2.1)) (hF.word hcb.2.1 (xa X))) hPc
  rcases hcase with ⟨v, hq, -⟩ | ⟨q, hq, hsteps⟩
  · rcases hq with ⟨⟨v1, ad1, hr1, -⟩, -⟩ | ⟨E1, q1, ce, L1, ad1, -, ho, -⟩
    · cases hr1
    · cases ho
  · rcases hq with ⟨⟨v1, ad1, hr1, -⟩, -⟩ | ⟨E1, q1, ce, L1, ad1, hE, ho, hag, hR1, hw1, ⟨hFz, hFk⟩, hce, hv, hcl1, -, -, -⟩
    · cases hr1
    · cases Sum.inr.inj hE
      cases ho
      have hFz' : H.size ≤ U'.heap.size := by rw [e1, ← hT]; exact hFz
      have hFk' : ∀ q : Nat, q < H.size → ¬ qA g q → U'.heap[q]? = H[q]? := fun q h1 h2 => by rw [e1, ← hT]; exact hFk q (by show q < T.heap.size; rw [hT]; exact h1) h2
      obtain ⟨t2, a1, b1⟩ := fin.2 ad ad1 H locs Lc cells slots ls U' _ ce (st.map (rV g ad)) ok I d1 X' hL hag (by rw [e1]; exact hR1) hw1 hFz' hFk' (by rw [e1]; exact hce) hv (by have h9 : (T.setVm vm₁).vm.findClass E = some ce.cls := hcl1; rw [X₁.warmed.alike.findClass] at h9; exact h9)
      exact ⟨t2, hstep₁ _ fun acts => by rw [doInvoke_state]; exact hsteps.trans a1, b1⟩
theorem ew_callSx {Y' : qY} {ix fr' lo' : Nat} {E : String} {M' : PM} {stk : List Value} (As : List Value) (hd : decode Y.2.1 pc = .ok (.invokestatic ix, 3)) (hc : qCs Y.1.cls ix Y' As.length) (hl9 : Cond.methodLink Y.1.cls ix Y'.1 ∈ qTT) (ht : CT Y' fr' lo' As M (.inr E) M') (hfr : fr' + 1 ≤ zn Z) (hlo : 8 + (Y'.2.2.1 + 11) + lo' ≤ zl Z) (h8 : (st.map fun v => v.category).sum ≤ 8) (hstk : As.reverse ++ st = stk) (fin : qFin Y g X Z pc L M M' E) : EW Y g X Z pc L stk M := by
  subst hstk
  refine ⟨⟨Nat.le_trans (ht.1 g X).1 fin.1.1, Nat.le_trans (ht.1 g X).2.1 fin.1.2.1, Nat.le_trans (ht.1 g X).2.2 fin.1.2.2⟩, fun ok ad H locs cells slots ls I hs => ?_⟩
  obtain ⟨hx, hb, hml, hown, hr, hlk, hEx, hnm, hst, hF, hg0, hfr0, hlo0, hRc, hRs⟩ := id ok
  obtain ⟨hcb, hsta, -⟩ := hc
  obtain ⟨w1, w2⟩ := wfS_rev hs
  have c1 := I.2.2.2.2.2.2.1
  have c2 := I.2.2.2.2.2.2.2
  have d1 := ht.1 g X
  have hz1 := fin.1
  have hM := ht.2 (xl X) g ad hst I.2.2.1 w1
  have hcode := qF.code hF hcb.1 (xa X)
  have hyc : Y'.1.cls ≠ "java/lang/invoke/MethodHandle" ∧ Y'.1.cls ≠ "java/lang/invoke/VarHandle" := ⟨hcb.2.2.1, hcb.2.2.2.1⟩
  have hstack : (F0 (xm X) pc ls ((As.reverse ++ st).map (rV g ad))).stack = (As.map (rV g ad)).reverse ++ st.map (rV g ad) := by
    show (As.reverse ++ st).map (rV g ad) = _
    rw [List.map_append, List.map_reverse]
  intro T hT X0
  obtain ⟨mk, hnamed⟩ := Cond.code_named hcode
  obtain ⟨methM, cM, hmethM, hcM, -, hlM, -, -, -, hsigM⟩ := Cond.code_spec hnamed hcode
  have hstatic : methM.isStatic = true := Cond.static_spec hnamed hmethM (hF.word hsta (xa X))
  obtain ⟨kP, hkP, -⟩ := className_of_methodNamed hnamed
  have hinitP : kP.init = .initialized := Cond.initialized_spec (findClass_of_methodNamed hnamed) hkP (hF.word hcb.2.1 (xa X))
  have hlen : (As.map (rV g ad)).length = methM.sig.parameters.length := by
    have h9 := hcb.2.2.2.2
    rw [hsigM] at h9
    rw [List.length_map]
    exact (Option.some.inj h9).symm
  obtain ⟨vm₁, X₁, hstep₁⟩ := X0.invokestatic hx hown (hF.word hl9 _) hnamed hmethM hstatic hkP hinitP hyc (g := F0 (xm X) pc ls ((As.reverse ++ st).map (rV g ad))) rfl (argsL := As.map (rV g ad)) (rest := st.map (rV g ad)) hlen hstack (by rw [hb]; exact hd)
  have hPc := qPre_blind (As := As) (g := g) (ad := ad) (M0 := M) (a := (As.map (rV g ad)).toArray) (U := T.setVm vm₁) (F0 (xm X) pc ls (st.map (rV g ad))) mk (qPre_at (As := As) ok I (T.setVm vm₁) hT X₁.warmed)
  obtain ⟨t, U', Lc, e1, e2, X', hL, hcase⟩ := qx_go X₁ (a := (As.map (rV g ad)).toArray) hM (Nat.le_trans hfr hfr0) (maxL := Y'.2.2.1) (Nat.le_trans hlo hlo0) (by show cells + (mC M' - mC M) ≤ _; omega) (by show slots + (mT M' - mT M) ≤ _; omega)
    (fun w hw => by rw [List.mem_singleton.mp hw]; exact word_at X₁.warmed (Or.inl rfl) hcode) (g := F0 (xm X) pc ls (st.map (rV g ad))) rfl (I.2.2.2.2.2.1.1.trans hml.symm) (by rw [hb]; exact hd) (lv_room (by rw [rS_cat]; exact h8)) (X₁.named hnamed) (by show (T.setVm vm₁).vm.method? mk = _; rw [X₁.warmed.alike.method?]; exact hmethM) hcM hlM (word_at X₁.warmed (good_of_word (qTT_good _ hcb.2.1)) (hF.word hcb.2.1 (xa X))) hPc
  rcases hcase with ⟨v, hq, -⟩ | ⟨q, hq, hsteps⟩
  · rcases hq with ⟨⟨v1, ad1, hr1, -⟩, -⟩ | ⟨E1, q1, ce, L1, ad1, -, ho, -⟩
    · cases hr1
    · cases ho
  · rcases hq with ⟨⟨v1, ad1, hr1, -⟩, -⟩ | ⟨E1, q1, ce, L1, ad1, hE, ho, hag, hR1, hw1, ⟨hFz, hFk⟩, hce, hv, hcl1, -, -, -⟩
    · cases hr1
    · cases Sum.inr.inj hE
      cases ho
      have hFz' : H.size ≤ U'.heap.size := by rw [e1, ← hT]; exact hFz
      have hFk' : ∀ q : Nat, q < H.size → ¬ qA g q → U'.heap[q]? = H[q]? := fun q h1 h2 => by rw [e1, ← hT]; exact hFk q (by show q < T.heap.size; rw [hT]; exact h1) h2
      obtain ⟨t2, a1, b1⟩ := fin.2 ad ad1 H locs Lc cells slots ls U' _ ce (st.map (rV g ad)) ok I d1 X' hL hag (by rw [e1]; exact hR1) hw1 hFz' hFk' (by rw [e1]; exact hce) hv (by have h9 : (T.setVm vm₁).vm.findClass E = some ce.cls := hcl1; rw [X₁.warmed.alike.findClass] at h9; exact h9)
      exact ⟨t2, hstep₁ _ fun acts => by rw [doInvoke_state]; exact hsteps.trans a1, b1⟩
/-- a static method with handlers, as the tables have it -/
def qCw (own : String) (ix : Nat) (Y' : qY) (n : Nat) : Prop := Cond.codeWith Y'.1 Y'.2.1 Y'.2.2.1 Y'.2.2.2 (qHd Y') ∈ lw_tbl ∧ Cond.initialized Y'.1.cls ∈ qTT ∧ Y'.1.cls ≠ "java/lang/invoke/MethodHandle" ∧ Y'.1.cls ≠ "java/lang/invoke/VarHandle" ∧ (parseMethodDescriptor Y'.1.desc).map (fun d => d.parameters.length) = some n ∧ Cond.static Y'.1 ∈ qTT ∧ Cond.methodLink own ix Y'.1 ∈ qTT
/-- a static method with handlers, by its contract -/
theorem ew_callSw {Y' : qY} {ix fr' lo' : Nat} {v : Option Value} {M' : PM} {stk stk' : List Value} (As : List Value) (hd : decode Y.2.1 pc = .ok (.invokestatic ix, 3)) (hc : qCw Y.1.cls ix Y' As.length) (ht : CTw Y' fr' lo' As M (.inl v) M') (hfr : fr' + 1 ≤ zn Z) (hlo : 8 + (Y'.2.2.1 + 11) + lo' ≤ zl Z) (h8 : (st.map fun v => v.category).sum ≤ 8) (hstk : As.reverse ++ st = stk) (hstk' : v.toList ++ st = stk') (k : EW Y g X Z (pc + 3) L stk' M') : EW Y g X Z pc L stk M := by
  subst hstk; subst hstk'
  refine ⟨⟨Nat.le_trans (ht.1 g X).1 k.1.1, Nat.le_trans (ht.1 g X).2.1 k.1.2.1, Nat.le_trans (ht.1 g X).2.2 k.1.2.2⟩, fun ok ad H locs cells slots ls I hs => ?_⟩
  obtain ⟨hx, hb, hml, hown, hr, hlk, hEx, hnm, hst, hF, hg0, hfr0, hlo0, hRc, hRs⟩ := id ok
  obtain ⟨hcw, hini, hy1, hy2, hpar, hsta, hl9⟩ := hc
  obtain ⟨w1, w2⟩ := wfS_rev hs
  have c1 := I.2.2.2.2.2.2.1
  have c2 := I.2.2.2.2.2.2.2
  have d1 := ht.1 g X
  have hz1 := k.1
  have hM := ht.2 (xl X) g ad hst I.2.2.1 w1
  have hcode : (Cond.codeWith Y'.1 Y'.2.1 Y'.2.2.1 Y'.2.2.2 (qHd Y')).before (xa X) (xs X) = true := qGw_at (State.WarmedH.refl _) rfl (hF.2.2.2.1.1 _ hcw rfl)
  have hyc : Y'.1.cls ≠ "java/lang/invoke/MethodHandle" ∧ Y'.1.cls ≠ "java/lang/invoke/VarHandle" := ⟨hy1, hy2⟩
  have hstack : (F0 (xm X) pc ls ((As.reverse ++ st).map (rV g ad))).stack = (As.map (rV g ad)).reverse ++ st.map (rV g ad) := by
    show (As.reverse ++ st).map (rV g ad) = _
    rw [List.map_append, List.map_reverse]
  intro T hT X0
  obtain ⟨mk, methM, cM, hnamed, hmethM, hcM, -, hlM, -, -, -, hsigM⟩ := Cond.codeWith_spec hcode
  have hstatic : methM.isStatic = true := Cond.static_spec hnamed hmethM (hF.word hsta (xa X))
  obtain ⟨kP, hkP, -⟩ := className_of_methodNamed hnamed
  have hinitP : kP.init = .initialized := Cond.initialized_spec (findClass_of_methodNamed hnamed) hkP (hF.word hini (xa X))
  have hlen : (As.map (rV g ad)).length = methM.sig.parameters.length := by
    have h9 := hpar
    rw [hsigM] at h9
    rw [List.length_map]
    exact (Option.some.inj h9).symm
  obtain ⟨vm₁, X₁, hstep₁⟩ := X0.invokestatic hx hown (hF.word hl9 _) hnamed hmethM hstatic hkP hinitP hyc (g := F0 (xm X) pc ls ((As.reverse ++ st).map (rV g ad))) rfl (argsL := As.map (rV g ad)) (rest := st.map (rV g ad)) hlen hstack (by rw [hb]; exact hd)
  have hPc := qPre_blind (As := As) (g := g) (ad := ad) (M0 := M) (a := (As.map (rV g ad)).toArray) (U := T.setVm vm₁) (F0 (xm X) pc ls (st.map (rV g ad))) mk (qPre_at (As := As) ok I (T.setVm vm₁) hT X₁.warmed)
  obtain ⟨t, U', Lc, e1, e2, X', hL, hcase⟩ := qx_go X₁ (a := (As.map (rV g ad)).toArray) hM (Nat.le_trans hfr hfr0) (maxL := Y'.2.2.1) (Nat.le_trans hlo hlo0) (by show cells + (mC M' - mC M) ≤ _; omega) (by show slots + (mT M' - mT M) ≤ _; omega)
    (fun w hw => by rw [List.mem_singleton.mp hw]; exact word_at X₁.warmed (Or.inl rfl) hcode) (g := F0 (xm X) pc ls (st.map (rV g ad))) rfl (I.2.2.2.2.2.1.1.trans hml.symm) (by rw [hb]; exact hd) (lv_room (by rw [rS_cat]; exact h8)) (X₁.named hnamed) (by show (T.setVm vm₁).vm.method? mk = _; rw [X₁.warmed.alike.method?]; exact hmethM) hcM hlM (word_at X₁.warmed (good_of_word (qTT_good _ hini)) (hF.word hini (xa X))) hPc
  rcases hcase with ⟨v0, hq, hsteps⟩ | ⟨q, hq, -⟩
  · rcases hq with ⟨⟨v1, ad1, hr1, ho, hag, hR1, hw1, hv1⟩, ⟨hFz, hFk⟩, -⟩ | ⟨E1, q1, ce, L1, ad1, hE, -⟩
    · cases Sum.inl.inj hr1
      cases ho
      have S := I.2.2.2.2.1
      have hFz' : H.size ≤ U'.heap.size := by rw [e1, ← hT]; exact hFz
      have hFk' : ∀ q : Nat, q < H.size → ¬ qA g q → U'.heap[q]? = H[q]? := fun q h1 h2 => by rw [e1, ← hT]; exact hFk q (by show q < T.heap.size; rw [hT]; exact h1) h2
      have K := k.2 ok ad1 U'.heap (locs ++ Lc) (cells + (mC M' - mC M)) (slots + (mT M' - mT M)) ls
        ⟨⟨Nat.le_trans I.1.1 d1.2.2, fun j hj => (hag j (Nat.lt_of_lt_of_le hj I.1.1)).trans (I.1.2 j hj)⟩, by rw [e1]; exact hR1, hw1, wfL_mono d1.2.2 I.2.2.2.1,
          ⟨Nat.le_trans S.1 hFz', fun q h1 h2 => (hFk' q (Nat.lt_of_lt_of_le h1 S.1) h2).trans (S.2.1 q h1 h2), fun q hq => (List.mem_append.mp hq).elim (S.2.2 q) (hL q)⟩,
          by rw [rL_ext hag I.2.2.2.1]; exact I.2.2.2.2.2.1, by omega, by omega⟩ (wfS_app hv1 (wfS_mono d1.2.2 w2))
      have e9 : (v.toList ++ st).map (rV g ad1) = (v.map (rV g ad1)).toList ++ st.map (rV g ad) := by
        rw [List.map_append, rS_ext hag w2]
        cases v <;> rfl
      rw [e9] at K
      obtain ⟨t2, a1, b1⟩ := K U' rfl X'
      exact ⟨t2, hstep₁ _ fun acts => by rw [doInvoke_state]; exact hsteps.trans a1, b1⟩
    · cases hE
  · rcases hq with ⟨⟨v1, ad1, hr1, ho, -⟩, -⟩ | ⟨E1, q1, ce, L1, ad1, hE, -⟩
    · cases ho
    · cases hE
end EWX2
/-! throw new E("text") -/
theorem qZr_isRef {C n d : String} {A : Nat → Prop} {U : State} {args : Array Value} (h : qZr C n d A U U.heap) : (Cond.isRef (.static C n d)).before args U = true := by
  have key : ∀ v : Value, v.isRef = true → va_Z C n d v A U U.heap → (Cond.isRef (.static C n d)).before args U = true := by
    intro v hv hz
    obtain ⟨cf, kf, fi, f, a, cell, h1, h2, h3, h4, h5, h6, h7, -⟩ := hz
    have he : (Term.static C n d).eval args U none [] U = some v := by
      simp [Term.eval, State.fieldNamed?, h1, h2, h4, h5, h6, h7]
    simp only [Cond.before, Cond.holds, Cond.value, he]
    cases v <;> simp_all [Value.isRef]
  rcases h.1 with hz | ⟨t, hz⟩
  · exact key .null rfl hz
  · exact key (.ref t) rfl hz
theorem qZr_lays {C n d : String} {A : Nat → Prop} {U : State} {args : Array Value} (h : qZr C n d A U U.heap) : (Cond.laysStatic C n d).before args U = true := by
  obtain ⟨-, c, k, i, f, a, cell, h1, h2, h3, h4, h5, h6, h7, h8, h9, -⟩ := h
  exact Cond.laysStatic_of h1 h2 h3 h4 h5 h6 h7 h8 h9
def qHp (w : Cond) : Bool := decide (w = .isRef (.static "java/lang/Throwable" "UNASSIGNED_STACK" "[Ljava/lang/StackTraceElement;")) || decide (w = .isRef (.static "java/lang/Throwable" "SUPPRESSED_SENTINEL" "Ljava/util/List;")) || decide (w = .laysStatic "java/lang/Throwable" "UNASSIGNED_STACK" "[Ljava/lang/StackTraceElement;") || decide (w = .laysStatic "java/lang/Throwable" "SUPPRESSED_SENTINEL" "Ljava/util/List;")
section QR
variable {p : Program} {l : Launch} {e : Env} {R : Room} {s : State} {m : MethodId} {args : Array Value} {below : List Frame} {meth : Method} {c : Code} {T : State} {locs : List Loc} {cells slots : Nat}
/-- the frame as if its method had been invoked just now, in this heap -/
theorem qx_anew (X : Stand p l e R s m args below meth c T locs cells slots) {R' : Room} (hf : R'.frames ≤ R.frames) (hl : R'.locals ≤ R.locals) (hc : cells + R'.cells ≤ R.cells) (hs : slots + R'.slots ≤ R.slots) :
    Stand p l e R' ((T.setVm s.vm).setFrames (.invoking m args :: below)) m args below meth c T [] 0 0 := by
  have htop : (T.setVm s.vm).topJava?.isSome := X.here.top
  have hF : ((T.setVm s.vm).setFrames (.invoking m args :: below)).frames = .invoking m args :: below := State.frames_setFrames _ (State.cur_lt_of_top htop)
  obtain ⟨g₀, hg0⟩ := Option.isSome_iff_exists.mp htop
  obtain ⟨r, hr⟩ := State.topJava?_eq_some.mp hg0
  obtain ⟨t, ht, -⟩ := State.frames_cons hr
  have hlim : e.platform.stackLimits (T.setVm s.vm).me = e.platform.stackLimits s.me := X.limits
  have hbyt : (T.setVm s.vm).me.stackBytes = s.me.stackBytes := X.bytes
  have hU : ((T.setVm s.vm).setFrames (.invoking m args :: below)).localsInUse = s.localsInUse := by
    rw [State.localsInUse_invoking hF (meth := meth) (c := c) X.method X.code, State.localsInUse_invoking X.frames X.method X.code]
  have hnil : ((T.heap.toList.drop T.heap.size).map (fun q => q.slots.size)).sum = 0 := by
    rw [List.drop_eq_nil_of_le (Nat.le_of_eq Array.length_toList)]
    rfl
  have hroom : ((T.setVm s.vm).setFrames (.invoking m args :: below)).hasRoom e.platform R' = true := by
    have h := X.room
    have q1 := X.heapSize
    have q2 := X.used
    simp only [State.hasRoom, Bool.and_eq_true, decide_eq_true_eq] at h ⊢
    obtain ⟨⟨⟨⟨h1, h2, h3, h4, h5, h6⟩, h7⟩, h8⟩, h9⟩ := h
    rw [X.frames, List.length_cons] at h2 h3
    simp only [hF, hU, List.length_cons, State.stackLimits_setFrames, State.stackBytes_setFrames, hlim, hbyt]
    refine ⟨⟨⟨⟨by omega, by omega, by omega, by omega, by omega, h6⟩, ?_⟩, ?_⟩, X.book⟩
    · show T.heap.size + R'.cells ≤ e.platform.maxCells
      omega
    · show T.slotsUsed + R'.slots ≤ e.platform.maxSlots
      omega
  refine ⟨X.admits, X.cas, X.clock, hF, hroom, X.hears, X.method, X.code, X.here, X.tail, X.warmed, ?_, ?_, ?_⟩
  · rw [State.stackLimits_setFrames]; rfl
  · rw [State.stackBytes_setFrames]; rfl
  · refine ⟨?_, Nat.le_refl _, Nat.le_refl _, ?_, ?_, fun a c9 h9 => ⟨c9, h9, rfl, rfl, fun _ _ => rfl⟩⟩
    · show T.setVm s.vm = { ((T.setVm s.vm).setFrames (.invoking m args :: below)).setFrames (T.setVm s.vm).frames with heap := T.heap, slotsUsed := T.slotsUsed }
      rw [State.setFrames_setFrames, State.setFrames_self ht]
      rfl
    · show T.slotsUsed = T.slotsUsed + ((T.heap.toList.drop T.heap.size).map (·.slots.size)).sum
      rw [hnil]
      rfl
    · show ((T.heap.toList.drop T.heap.size).map (·.slots.size)).sum ≤ 0
      rw [hnil]
      exact Nat.le_refl _
end QR
def qTh (Y : qY) (pc : Nat) (cls : String) (nl : Nat) : Prop := ∃ (text : String) (names : List String) (ik is ic : Nat), names.length = nl ∧ Bundle.fit cls = true ∧ (∀ n ∈ names, Bundle.fit n = true) ∧ Cond.classLink Y.1.cls ik cls ∈ lw_tbl ∧ Cond.initialized cls ∈ lw_tbl ∧ (Y.1.cls, is, text) ∈ qSr ∧ (∀ w ∈ Bundle.ownAtoms Y.1.cls ic cls names, qHp w = true ∨ (w ∈ lw_tbl ∧ qGw w = true)) ∧ decode Y.2.1 pc = .ok (.new ik, 3) ∧ decode Y.2.1 (pc + 3) = .ok (.dup, 1) ∧ decode Y.2.1 (pc + 4) = .ok (.ldc is, 2) ∧ decode Y.2.1 (pc + 6) = .ok (.invokespecial ic, 3) ∧ decode Y.2.1 (pc + 9) = .ok (.athrow, 1)
set_option maxHeartbeats 4000000 in
theorem ew_throw {Y : qY} {g : qG} {X : qX} {Z : qZ} {pc : Nat} {L : List (Nat × Value)} {st : List Value} {M : PM} {cls : String} {nl : Nat} (h0 : qHd Y = []) (hT9 : qTh Y pc cls nl) (hz : zr Z = .inr cls) (hm : zf Z = nX M) (hfr : nl + 4 ≤ zn Z) (hlo : (st.map fun v => v.category).sum + (13 * (nl + 1) + 43) ≤ zl Z) : EW Y g X Z pc L st M := by
  refine ⟨by rw [hm]; exact ⟨Nat.le_succ _, Nat.le_add_right _ _, Nat.le_refl _⟩, fun ok ad H locs cells slots ls I hs => ?_⟩
  obtain ⟨hx, hb, hml, hown, hr, hlk, hEx, hnm, hst, hF, hg0, hfr0, hlo0, hRc, hRs⟩ := id ok
  obtain ⟨text, names, ik, is, ic, hnl, hfit, hnames, h1, h2, h3, h4, d0, d3, d4, d6, d9⟩ := hT9
  obtain ⟨sa, hsa⟩ := hF.2.2.2.2.2.2.1 _ h3
  have c1 := I.2.2.2.2.2.2.1
  have c2 := I.2.2.2.2.2.2.2
  have S := I.2.2.2.2.1
  have m1 : mC (zf Z) = mC M + 1 := by rw [hm]; rfl
  have m2 : mT (zf Z) = mT M + 6 := by rw [hm]; rfl
  subst hnl
  intro T hT X0
  have htr : (xe X).platform.stackTraces = false := (show (xe X).platform.stackTraces = (xl X).stackTraces by rw [X0.admits.platform]).trans hst
  have Y0 := qx_anew X0 (R' := { frames := (xR X).frames, locals := (xR X).locals, cells := 1, slots := 6 }) (Nat.le_refl _) (Nat.le_refl _) (by show cells + 1 ≤ _; omega) (by show slots + 6 ≤ _; omega)
  obtain ⟨s', hs'⟩ : ∃ z, z = (T.setVm (xs X).vm).setFrames (.invoking (xm X) (xa X) :: xb X) := ⟨_, rfl⟩
  rw [← hs'] at Y0
  have hvm : s'.vm = (xs X).vm := by rw [hs']; rfl
  have hhp : s'.heap = H := by rw [hs']; exact hT
  have hW0 : (xs X).WarmedH s'.vm := by rw [hvm]; exact State.WarmedH.refl _
  have hFs : qF g s' s'.heap := by rw [hhp]; exact (qF.kept hF (fun a h1 h2 => S.2.1 a h1 h2)).moved hW0
  have hall : ∀ w ∈ lw_tbl, qGw w = true → w.before (xa X) s' = true := fun w hw hg => qGw_at (State.WarmedH.refl s') hg (hFs.2.2.2.1.1 w hw hg)
  have hown' : s'.vm.findClass Y.1.cls = some (xm X).cls := by rw [hvm]; exact hown
  have hat : ∀ w ∈ Bundle.ownAtoms Y.1.cls ic cls names, w.before (xa X) s' = true := by
    intro w hw
    rcases h4 w hw with hh | ⟨hh, hg⟩
    · simp only [qHp, Bool.or_eq_true, decide_eq_true_eq] at hh
      rcases hh with ((hh | hh) | hh) | hh
      · rw [hh]; exact qZr_isRef hFs.2.2.2.2.1
      · rw [hh]; exact qZr_isRef hFs.2.2.2.2.2.1
      · rw [hh]; exact qZr_lays hFs.2.2.2.2.1
      · rw [hh]; exact qZr_lays hFs.2.2.2.2.2.1
    · exact hall w hh hg
  have hins : (Cond.instantiable cls 6).before (xa X) s' = true := hat _ (by simp [Bundle.ownAtoms])
  obtain ⟨vm₁, cX, kX, hfX, hkX, -, -, X₁, st1⟩ := Y0.newCold hx (own := Y.1.cls) (C := cls) (index := ik) (n := 6) hown' (hall _ h1 rfl) hins (hall _ h2 rfl)
    (g := F0 (xm X) pc ls (st.map (rV g ad))) rfl (by rw [hb]; exact d0) (Nat.le_refl _) (Nat.le_refl _)
  generalize hT1 : (T.setVm vm₁).pushCell { cls := cX, slots := kX.instanceTypes.map defaultValue, vm := .none } = T1 at X₁ st1
  have hcellA : T1.heap[T.heap.size]? = some (freshCell cX kX) := by rw [← hT1]; exact State.heap_pushCell_size _ _
  have d3' : decode (xc X).code (pc + 3) = .ok (.dup, 1) := by rw [hb]; exact d3
  have hsa' : vk_R Y.1.cls is text sa s' := vk_R.same hvm hsa
  have hsize : ls.size = (xc X).maxLocals := I.2.2.2.2.2.1.1.trans hml.symm
  have hcat : (Value.ref T.heap.size).category = 1 := rfl
  obtain ⟨U, hsteps, hrun, hend, hWU, hsame, ce, hce, hO⟩ := X₁.ctorThrowS hx htr (own := Y.1.cls) (cls := cls) (names := names) (ic := ic) hown' hfit hnames hat (fun x hx => nomatch hx) hfX hkX hcellA (by rw [hhp, hT]; exact Nat.le_refl _) (msg := .ref sa) rfl
    (g := { method := xm X, pc := pc + 6, locals := ls, stack := .ref sa :: .ref T.heap.size :: .ref T.heap.size :: st.map (rV g ad), locked := none }) rfl hsize rfl rfl (rest := st.map (rV g ad)) rfl
    (by rw [hb]; exact d6) (by rw [hb]; exact d9) (fun x hx => (qHd_nil (hEx.trans h0) x hx).elim) (by show names.length + 3 < (xR X).frames; omega) (by show 2 * 0 + _ + _ ≤ (xR X).locals; rw [List.map_cons, List.sum_cons, hcat, rS_cat]; omega) hlk
  have hWs : (xs X).WarmedH U.vm := State.WarmedH.trans hW0 hWU
  have hcl : (xs X).vm.findClass cls = some ce.cls := by
    have h9 := hO.cls
    rw [hvm] at h9
    exact h9
  have hfr9 : H.size ≤ U.heap.size ∧ ∀ q : Nat, q < H.size → U.heap[q]? = H[q]? := by
    obtain ⟨-, z2, -, -, -, z6⟩ := id hsame
    rw [hhp] at z2 z6
    refine ⟨z2, fun q hq => ?_⟩
    obtain ⟨c9, e1, e2, e3, e4⟩ := z6 q _ (Array.getElem?_eq_getElem hq)
    have hsl : c9.slots = (H[q]).slots := Array.ext_getElem? fun i => e4 i (fun hm => nomatch hm)
    have h9 : c9 = H[q] := by
      rw [hsl] at e2
      exact e2
    have e5 : U.heap[q]? = some c9 := e1
    rw [e5, h9, Array.getElem?_eq_getElem hq]
  have hsm : (xs X).sameButNew ({ U with vm := (xs X).vm } : State) locs (mC (zf Z) - mC (z0 Z)) (mT (zf Z) - mT (z0 Z)) := by
    subst hs'
    obtain ⟨e1, e2⟩ := hsame
    rw [State.setFrames_setFrames] at e1
    have h2 : (T.setVm (xs X).vm).sameButNew ({ U with vm := (xs X).vm } : State) [] (0 + 1) (0 + 6) := ⟨e1, e2⟩
    have h3 := X0.same.trans h2
    rw [List.append_nil] at h3
    exact h3.mono (by omega) (by omega)
  refine ⟨U, ?_, .threw T.heap.size, hrun, hend, Or.inr ⟨cls, T.heap.size, ce, locs, ad, hz, rfl, I.1.2, ?_, ?_, ?_, hce, hO.vm, hcl, hWs, hsm, S.2.2⟩⟩
  · refine st1 _ ?_
    show Steps (xp X).tables (xe X) (xb X) (T1.setTop { method := xm X, pc := pc + 3, locals := ls, stack := .ref T.heap.size :: st.map (rV g ad), locked := none }) _
    jvm_step X₁.here [X₁.here.top, hx, d3', Value.category]
    exact X₁.ldcString hx hown' (text := text) (a := sa) hsa'.1 hsa'.2 (g := { method := xm X, pc := pc + 4, locals := ls, stack := .ref T.heap.size :: .ref T.heap.size :: st.map (rV g ad), locked := none }) rfl (by rw [hb]; exact d4) _ hsteps
  · rw [hm]
    exact ⟨I.2.1.1.kept (fun k q hk => hfr9.2 q.1 ((I.2.1.1 k q hk).lt)), I.2.1.2⟩
  · rw [hm]
    exact I.2.2.1
  · exact ⟨Nat.le_trans S.1 hfr9.1, fun q q1 q2 => (hfr9.2 q (Nat.lt_of_lt_of_le q1 S.1)).trans (S.2.1 q q1 q2)⟩
end
section
theorem fl_XCore_14 : qFl "FlushProofs$Core" 14 1 0 true := ⟨"FlushProofs$Core", qU1, 8, rfl, by decide, rfl, fun _ _ => ⟨rfl, (List.mem_of_getElem? (i := 94) (by decide +kernel))⟩, Or.inl (List.mem_of_getElem? (i := 94) (by decide +kernel))⟩
theorem fl_XCore_23 : qFl "FlushProofs$Core" 23 1 1 true := ⟨"FlushProofs$Core", qU1, 8, rfl, by decide, rfl, fun _ _ => ⟨rfl, (List.mem_of_getElem? (i := 95) (by decide +kernel))⟩, Or.inl (List.mem_of_getElem? (i := 95) (by decide +kernel))⟩
theorem fl_XCore_27 : qFl "FlushProofs$Core" 27 1 2 true := ⟨"FlushProofs$Core", qU1, 8, rfl, by decide, rfl, fun _ _ => ⟨rfl, (List.mem_of_getElem? (i := 96) (by decide +kernel))⟩, Or.inl (List.mem_of_getElem? (i := 96) (by decide +kernel))⟩
theorem fl_XCore_30 : qFl "FlushProofs$Core" 30 1 3 true := ⟨"FlushProofs$Core", qU1, 8, rfl, by decide, rfl, fun _ _ => ⟨rfl, (List.mem_of_getElem? (i := 97) (by decide +kernel))⟩, Or.inl (List.mem_of_getElem? (i := 97) (by decide +kernel))⟩
theorem fl_XCore_33 : qFl "FlushProofs$Core" 33 1 4 true := ⟨"FlushProofs$Core", qU1, 8, rfl, by decide, rfl, fun _ _ => ⟨rfl, (List.mem_of_getElem? (i := 98) (by decide +kernel))⟩, Or.inl (List.mem_of_getElem? (i := 98) (by decide +kernel))⟩
theorem fl_XCore_36 : qFl "FlushProofs$Core" 36 1 5 false := ⟨"FlushProofs$Core", qU1, 8, rfl, by decide, rfl, fun h _ => absurd h (by decide), Or.inl (List.mem_of_getElem? (i := 99) (by decide +kernel))⟩
theorem fl_XCore_44 : qFl "FlushProofs$Core" 44 1 6 false := ⟨"FlushProofs$Core", qU1, 8, rfl, by decide, rfl, fun h _ => absurd h (by decide), Or.inl (List.mem_of_getElem? (i := 100) (by decide +kernel))⟩
theorem fl_XCore_47 : qFl "FlushProofs$Core" 47 1 7 false := ⟨"FlushProofs$Core", qU1, 8, rfl, by decide, rfl, fun h _ => absurd h (by decide), Or.inl (List.mem_of_getElem? (i := 101) (by decide +kernel))⟩
theorem fl_XModel_119 : qFl "FlushProofsModel" 119 8 9 false := ⟨"FlushProofsModel", qU8, 36, rfl, by decide, rfl, fun h _ => absurd h (by decide), Or.inl (List.mem_of_getElem? (i := 102) (by decide +kernel))⟩
theorem fl_XModel_13 : qFl "FlushProofsModel" 13 8 3 true := ⟨"FlushProofsModel", qU8, 36, rfl, by decide, rfl, fun _ _ => ⟨rfl, (List.mem_of_getElem? (i := 103) (by decide +kernel))⟩, Or.inl (List.mem_of_getElem? (i := 103) (by decide +kernel))⟩
theorem fl_XModel_155 : qFl "FlushProofsModel" 155 8 10 false := ⟨"FlushProofsModel", qU8, 36, rfl, by decide, rfl, fun h _ => absurd h (by decide), Or.inl (List.mem_of_getElem? (i := 104) (by decide +kernel))⟩
theorem fl_XModel_164 : qFl "FlushProofsModel" 164 8 23 false := ⟨"FlushProofsModel", qU8, 36, rfl, by decide, rfl, fun h _ => absurd h (by decide), Or.inl (List.mem_of_getElem? (i := 105) (by decide +kernel))⟩
theorem fl_XModel_167 : qFl "FlushProofsModel" 167 8 25 false := ⟨"FlushProofsModel", qU8, 36, rfl, by decide, rfl, fun h _ => absurd h (by decide), Or.inl (List.mem_of_getElem? (i := 106) (by decide +kernel))⟩
theorem fl_XModel_17 : qFl "FlushProofsModel" 17 8 4 true := ⟨"FlushProofsModel", qU8, 36, rfl, by decide, rfl, fun _ _ => ⟨rfl, (List.mem_of_getElem? (i := 107) (by decide +kernel))⟩, Or.inl (List.mem_of_getElem? (i := 107) (by decide +kernel))⟩
theorem fl_XModel_170 : qFl "FlushProofsModel" 170 8 29 false := ⟨"FlushProofsModel", qU8, 36, rfl, by decide, rfl, fun h _ => absurd h (by decide), Or.inl (List.mem_of_getElem? (i := 108) (by decide +kernel))⟩
theorem fl_XModel_173 : qFl "FlushProofsModel" 173 8 30 false := ⟨"FlushProofsModel", qU8, 36, rfl, by decide, rfl, fun h _ => absurd h (by decide), Or.inl (List.mem_of_getElem? (i := 109) (by decide +kernel))⟩
theorem fl_XModel_176 : qFl "FlushProofsModel" 176 8 24 false := ⟨"FlushProofsModel", qU8, 36, rfl, by decide, rfl, fun h _ => absurd h (by decide), Or.inl (List.mem_of_getElem? (i := 110) (by decide +kernel))⟩
theorem fl_XModel_192 : qFl "FlushProofsModel" 192 8 33 false := ⟨"FlushProofsModel", qU8, 36, rfl, by decide, rfl, fun h _ => absurd h (by decide), Or.inl (List.mem_of_getElem? (i := 111) (by decide +kernel))⟩
theorem fl_XModel_195 : qFl "FlushProofsModel" 195 8 34 false := ⟨"FlushProofsModel", qU8, 36, rfl, by decide, rfl, fun h _ => absurd h (by decide), Or.inl (List.mem_of_getElem? (i := 112) (by decide +kernel))⟩
theorem fl_XModel_198 : qFl "FlushProofsModel" 198 8 35 false := ⟨"FlushProofsModel", qU8, 36, rfl, by decide, rfl, fun h _ => absurd h (by decide), Or.inl (List.mem_of_getElem? (i := 113) (by decide +kernel))⟩
theorem fl_XModel_20 : qFl "FlushProofsModel" 20 8 5 true := ⟨"FlushProofsModel", qU8, 36, rfl, by decide, rfl, fun _ _ => ⟨rfl, (List.mem_of_getElem? (i := 114) (by decide +kernel))⟩, Or.inl (List.mem_of_getElem? (i := 114) (by decide +kernel))⟩
theorem fl_XModel_201 : qFl "FlushProofsModel" 201 8 31 false := ⟨"FlushProofsModel", qU8, 36, rfl, by decide, rfl, fun h _ => absurd h (by decide), Or.inl (List.mem_of_getElem? (i := 115) (by decide +kernel))⟩
theorem fl_XModel_23 : qFl "FlushProofsModel" 23 8 6 true := ⟨"FlushProofsModel", qU8, 36, rfl, by decide, rfl, fun _ _ => ⟨rfl, (List.mem_of_getElem? (i := 116) (by decide +kernel))⟩, Or.inl (List.mem_of_getElem? (i := 116) (by decide +kernel))⟩
theorem fl_XModel_26 : qFl "FlushProofsModel" 26 8 7 true := ⟨"FlushProofsModel", qU8, 36, rfl, by decide, rfl, fun _ _ => ⟨rfl, (List.mem_of_getElem? (i := 117) (by decide +kernel))⟩, Or.inl (List.mem_of_getElem? (i := 117) (by decide +kernel))⟩
theorem fl_XModel_29 : qFl "FlushProofsModel" 29 8 8 true := ⟨"FlushProofsModel", qU8, 36, rfl, by decide, rfl, fun _ _ => ⟨rfl, (List.mem_of_getElem? (i := 118) (by decide +kernel))⟩, Or.inl (List.mem_of_getElem? (i := 118) (by decide +kernel))⟩
theorem fl_XModel_32 : qFl "FlushProofsModel" 32 8 11 true := ⟨"FlushProofsModel", qU8, 36, rfl, by decide, rfl, fun _ _ => ⟨rfl, (List.mem_of_getElem? (i := 119) (by decide +kernel))⟩, Or.inl (List.mem_of_getElem? (i := 119) (by decide +kernel))⟩
theorem fl_XModel_35 : qFl "FlushProofsModel" 35 8 12 true := ⟨"FlushProofsModel", qU8, 36, rfl, by decide, rfl, fun _ _ => ⟨rfl, (List.mem_of_getElem? (i := 120) (by decide +kernel))⟩, Or.inl (List.mem_of_getElem? (i := 120) (by decide +kernel))⟩
theorem fl_XModel_38 : qFl "FlushProofsModel" 38 8 13 true := ⟨"FlushProofsModel", qU8, 36, rfl, by decide, rfl, fun _ _ => ⟨rfl, (List.mem_of_getElem? (i := 121) (by decide +kernel))⟩, Or.inl (List.mem_of_getElem? (i := 121) (by decide +kernel))⟩
theorem fl_XModel_42 : qFl "FlushProofsModel" 42 8 14 true := ⟨"FlushProofsModel", qU8, 36, rfl, by decide, rfl, fun _ _ => ⟨rfl, (List.mem_of_getElem? (i := 122) (by decide +kernel))⟩, Or.inl (List.mem_of_getElem? (i := 122) (by decide +kernel))⟩
theorem fl_XModel_45 : qFl "FlushProofsModel" 45 8 15 true := ⟨"FlushProofsModel", qU8, 36, rfl, by decide, rfl, fun _ _ => ⟨rfl, (List.mem_of_getElem? (i := 123) (by decide +kernel))⟩, Or.inl (List.mem_of_getElem? (i := 123) (by decide +kernel))⟩
theorem fl_XModel_48 : qFl "FlushProofsModel" 48 8 16 true := ⟨"FlushProofsModel", qU8, 36, rfl, by decide, rfl, fun _ _ => ⟨rfl, (List.mem_of_getElem? (i := 124) (by decide +kernel))⟩, Or.inl (List.mem_of_getElem? (i := 124) (by decide +kernel))⟩
theorem fl_XModel_51 : qFl "FlushProofsModel" 51 8 17 true := ⟨"FlushProofsModel", qU8, 36, rfl, by decide, rfl, fun _ _ => ⟨rfl, (List.mem_of_getElem? (i := 125) (by decide +kernel))⟩, Or.inl (List.mem_of_getElem? (i := 125) (by decide +kernel))⟩
theorem fl_XModel_54 : qFl "FlushProofsModel" 54 8 18 true := ⟨"FlushProofsModel", qU8, 36, rfl, by decide, rfl, fun _ _ => ⟨rfl, (List.mem_of_getElem? (i := 126) (by decide +kernel))⟩, Or.inl (List.mem_of_getElem? (i := 126) (by decide +kernel))⟩
theorem fl_XModel_57 : qFl "FlushProofsModel" 57 8 19 true := ⟨"FlushProofsModel", qU8, 36, rfl, by decide, rfl, fun _ _ => ⟨rfl, (List.mem_of_getElem? (i := 127) (by decide +kernel))⟩, Or.inl (List.mem_of_getElem? (i := 127) (by decide +kernel))⟩
theorem fl_XModel_60 : qFl "FlushProofsModel" 60 8 20 true := ⟨"FlushProofsModel", qU8, 36, rfl, by decide, rfl, fun _ _ => ⟨rfl, (List.mem_of_getElem? (i := 128) (by decide +kernel))⟩, Or.inl (List.mem_of_getElem? (i := 128) (by decide +kernel))⟩
theorem fl_XModel_63 : qFl "FlushProofsModel" 63 8 21 true := ⟨"FlushProofsModel", qU8, 36, rfl, by decide, rfl, fun _ _ => ⟨rfl, (List.mem_of_getElem? (i := 129) (by decide +kernel))⟩, Or.inl (List.mem_of_getElem? (i := 129) (by decide +kernel))⟩
theorem fl_XModel_66 : qFl "FlushProofsModel" 66 8 22 true := ⟨"FlushProofsModel", qU8, 36, rfl, by decide, rfl, fun _ _ => ⟨rfl, (List.mem_of_getElem? (i := 130) (by decide +kernel))⟩, Or.inl (List.mem_of_getElem? (i := 130) (by decide +kernel))⟩
theorem fl_XModel_69 : qFl "FlushProofsModel" 69 8 26 true := ⟨"FlushProofsModel", qU8, 36, rfl, by decide, rfl, fun _ _ => ⟨rfl, (List.mem_of_getElem? (i := 131) (by decide +kernel))⟩, Or.inl (List.mem_of_getElem? (i := 131) (by decide +kernel))⟩
theorem fl_XModel_7 : qFl "FlushProofsModel" 7 8 1 false := ⟨"FlushProofsModel", qU8, 36, rfl, by decide, rfl, fun h _ => absurd h (by decide), Or.inl (List.mem_of_getElem? (i := 132) (by decide +kernel))⟩
theorem fl_XModel_72 : qFl "FlushProofsModel" 72 8 27 true := ⟨"FlushProofsModel", qU8, 36, rfl, by decide, rfl, fun _ _ => ⟨rfl, (List.mem_of_getElem? (i := 133) (by decide +kernel))⟩, Or.inl (List.mem_of_getElem? (i := 133) (by decide +kernel))⟩
theorem fl_XModel_75 : qFl "FlushProofsModel" 75 8 28 true := ⟨"FlushProofsModel", qU8, 36, rfl, by decide, rfl, fun _ _ => ⟨rfl, (List.mem_of_getElem? (i := 134) (by decide +kernel))⟩, Or.inl (List.mem_of_getElem? (i := 134) (by decide +kernel))⟩
theorem fl_XModel_78 : qFl "FlushProofsModel" 78 8 32 true := ⟨"FlushProofsModel", qU8, 36, rfl, by decide, rfl, fun _ _ => ⟨rfl, (List.mem_of_getElem? (i := 135) (by decide +kernel))⟩, Or.inl (List.mem_of_getElem? (i := 135) (by decide +kernel))⟩
theorem fl_XModel_81 : qFl "FlushProofsModel" 81 8 2 false := ⟨"FlushProofsModel", qU8, 36, rfl, by decide, rfl, fun h _ => absurd h (by decide), Or.inl (List.mem_of_getElem? (i := 136) (by decide +kernel))⟩
theorem fl_XModel_87 : qFl "FlushProofsModel" 87 8 0 false := ⟨"FlushProofsModel", qU8, 36, rfl, by decide, rfl, fun h _ => absurd h (by decide), Or.inl (List.mem_of_getElem? (i := 137) (by decide +kernel))⟩
theorem fl_XNodes_15 : qFl "FlushProofs$Nodes" 15 2 1 true := ⟨"FlushProofs$Nodes", qU2, 9, rfl, by decide, rfl, fun _ _ => ⟨rfl, (List.mem_of_getElem? (i := 138) (by decide +kernel))⟩, Or.inl (List.mem_of_getElem? (i := 138) (by decide +kernel))⟩
theorem fl_XNodes_18 : qFl "FlushProofs$Nodes" 18 2 2 true := ⟨"FlushProofs$Nodes", qU2, 9, rfl, by decide, rfl, fun _ _ => ⟨rfl, (List.mem_of_getElem? (i := 139) (by decide +kernel))⟩, Or.inl (List.mem_of_getElem? (i := 139) (by decide +kernel))⟩
theorem fl_XNodes_21 : qFl "FlushProofs$Nodes" 21 2 3 true := ⟨"FlushProofs$Nodes", qU2, 9, rfl, by decide, rfl, fun _ _ => ⟨rfl, (List.mem_of_getElem? (i := 140) (by decide +kernel))⟩, Or.inl (List.mem_of_getElem? (i := 140) (by decide +kernel))⟩
theorem fl_XNodes_24 : qFl "FlushProofs$Nodes" 24 2 4 true := ⟨"FlushProofs$Nodes", qU2, 9, rfl, by decide, rfl, fun _ _ => ⟨rfl, (List.mem_of_getElem? (i := 141) (by decide +kernel))⟩, Or.inl (List.mem_of_getElem? (i := 141) (by decide +kernel))⟩
theorem fl_XNodes_28 : qFl "FlushProofs$Nodes" 28 2 5 true := ⟨"FlushProofs$Nodes", qU2, 9, rfl, by decide, rfl, fun _ _ => ⟨rfl, (List.mem_of_getElem? (i := 142) (by decide +kernel))⟩, Or.inl (List.mem_of_getElem? (i := 142) (by decide +kernel))⟩
theorem fl_XNodes_31 : qFl "FlushProofs$Nodes" 31 2 7 true := ⟨"FlushProofs$Nodes", qU2, 9, rfl, by decide, rfl, fun _ _ => ⟨rfl, (List.mem_of_getElem? (i := 143) (by decide +kernel))⟩, Or.inl (List.mem_of_getElem? (i := 143) (by decide +kernel))⟩
theorem fl_XNodes_34 : qFl "FlushProofs$Nodes" 34 2 6 true := ⟨"FlushProofs$Nodes", qU2, 9, rfl, by decide, rfl, fun _ _ => ⟨rfl, (List.mem_of_getElem? (i := 144) (by decide +kernel))⟩, Or.inl (List.mem_of_getElem? (i := 144) (by decide +kernel))⟩
theorem fl_XNodes_43 : qFl "FlushProofs$Nodes" 43 2 8 false := ⟨"FlushProofs$Nodes", qU2, 9, rfl, by decide, rfl, fun h _ => absurd h (by decide), Or.inl (List.mem_of_getElem? (i := 145) (by decide +kernel))⟩
theorem fl_XNodes_9 : qFl "FlushProofs$Nodes" 9 2 0 true := ⟨"FlushProofs$Nodes", qU2, 9, rfl, by decide, rfl, fun _ _ => ⟨rfl, (List.mem_of_getElem? (i := 146) (by decide +kernel))⟩, Or.inl (List.mem_of_getElem? (i := 146) (by decide +kernel))⟩
theorem fl_XOutcome_15 : qFl "FlushProofs$Outcome" 15 3 1 false := ⟨"FlushProofs$Outcome", qU3, 7, rfl, by decide, rfl, fun h _ => absurd h (by decide), Or.inl (List.mem_of_getElem? (i := 147) (by decide +kernel))⟩
theorem fl_XOutcome_25 : qFl "FlushProofs$Outcome" 25 3 2 false := ⟨"FlushProofs$Outcome", qU3, 7, rfl, by decide, rfl, fun h _ => absurd h (by decide), Or.inl (List.mem_of_getElem? (i := 148) (by decide +kernel))⟩
theorem fl_XOutcome_28 : qFl "FlushProofs$Outcome" 28 3 3 false := ⟨"FlushProofs$Outcome", qU3, 7, rfl, by decide, rfl, fun h _ => absurd h (by decide), Or.inl (List.mem_of_getElem? (i := 149) (by decide +kernel))⟩
theorem fl_XOutcome_31 : qFl "FlushProofs$Outcome" 31 3 5 false := ⟨"FlushProofs$Outcome", qU3, 7, rfl, by decide, rfl, fun h _ => absurd h (by decide), Or.inl (List.mem_of_getElem? (i := 150) (by decide +kernel))⟩
theorem fl_XOutcome_34 : qFl "FlushProofs$Outcome" 34 3 6 false := ⟨"FlushProofs$Outcome", qU3, 7, rfl, by decide, rfl, fun h _ => absurd h (by decide), Or.inl (List.mem_of_getElem? (i := 151) (by decide +kernel))⟩
theorem fl_XOutcome_9 : qFl "FlushProofs$Outcome" 9 3 0 true := ⟨"FlushProofs$Outcome", qU3, 7, rfl, by decide, rfl, fun _ _ => ⟨rfl, (List.mem_of_getElem? (i := 152) (by decide +kernel))⟩, Or.inl (List.mem_of_getElem? (i := 152) (by decide +kernel))⟩
theorem fl_XPlanes_21 : qFl "FlushProofs$Planes" 21 4 1 true := ⟨"FlushProofs$Planes", qU4, 4, rfl, by decide, rfl, fun _ _ => ⟨rfl, (List.mem_of_getElem? (i := 153) (by decide +kernel))⟩, Or.inl (List.mem_of_getElem? (i := 153) (by decide +kernel))⟩
theorem fl_XPlanes_25 : qFl "FlushProofs$Planes" 25 4 2 true := ⟨"FlushProofs$Planes", qU4, 4, rfl, by decide, rfl, fun _ _ => ⟨rfl, (List.mem_of_getElem? (i := 154) (by decide +kernel))⟩, Or.inl (List.mem_of_getElem? (i := 154) (by decide +kernel))⟩
theorem fl_XPlanes_28 : qFl "FlushProofs$Planes" 28 4 3 true := ⟨"FlushProofs$Planes", qU4, 4, rfl, by decide, rfl, fun _ _ => ⟨rfl, (List.mem_of_getElem? (i := 155) (by decide +kernel))⟩, Or.inl (List.mem_of_getElem? (i := 155) (by decide +kernel))⟩
theorem fl_XPlanes_33 : qFl "FlushProofs$Planes" 33 2 1 true := ⟨"FlushProofs$Nodes", qU2, 9, rfl, by decide, rfl, fun _ h => absurd h (by decide), Or.inr ⟨"FlushProofs", (List.mem_of_getElem? (i := 0) (by decide +kernel))⟩⟩
theorem fl_XPlanes_37 : qFl "FlushProofs$Planes" 37 2 2 true := ⟨"FlushProofs$Nodes", qU2, 9, rfl, by decide, rfl, fun _ h => absurd h (by decide), Or.inr ⟨"FlushProofs", (List.mem_of_getElem? (i := 1) (by decide +kernel))⟩⟩
theorem fl_XPlanes_40 : qFl "FlushProofs$Planes" 40 2 0 true := ⟨"FlushProofs$Nodes", qU2, 9, rfl, by decide, rfl, fun _ h => absurd h (by decide), Or.inr ⟨"FlushProofs", (List.mem_of_getElem? (i := 2) (by decide +kernel))⟩⟩
theorem fl_XPlanes_47 : qFl "FlushProofs$Planes" 47 2 3 true := ⟨"FlushProofs$Nodes", qU2, 9, rfl, by decide, rfl, fun _ h => absurd h (by decide), Or.inr ⟨"FlushProofs", (List.mem_of_getElem? (i := 3) (by decide +kernel))⟩⟩
theorem fl_XPlanes_54 : qFl "FlushProofs$Planes" 54 2 4 true := ⟨"FlushProofs$Nodes", qU2, 9, rfl, by decide, rfl, fun _ h => absurd h (by decide), Or.inr ⟨"FlushProofs", (List.mem_of_getElem? (i := 4) (by decide +kernel))⟩⟩
theorem fl_XPlanes_9 : qFl "FlushProofs$Planes" 9 4 0 true := ⟨"FlushProofs$Planes", qU4, 4, rfl, by decide, rfl, fun _ _ => ⟨rfl, (List.mem_of_getElem? (i := 156) (by decide +kernel))⟩, Or.inl (List.mem_of_getElem? (i := 156) (by decide +kernel))⟩
theorem fl_XProver_101 : qFl "FlushProofs$Prover" 101 1 0 true := ⟨"FlushProofs$Core", qU1, 8, rfl, by decide, rfl, fun _ h => absurd h (by decide), Or.inr ⟨"FlushProofs", (List.mem_of_getElem? (i := 5) (by decide +kernel))⟩⟩
theorem fl_XProver_108 : qFl "FlushProofs$Prover" 108 1 4 true := ⟨"FlushProofs$Core", qU1, 8, rfl, by decide, rfl, fun _ h => absurd h (by decide), Or.inr ⟨"FlushProofs", (List.mem_of_getElem? (i := 6) (by decide +kernel))⟩⟩
theorem fl_XProver_120 : qFl "FlushProofs$Prover" 120 1 1 true := ⟨"FlushProofs$Core", qU1, 8, rfl, by decide, rfl, fun _ h => absurd h (by decide), Or.inr ⟨"FlushProofs", (List.mem_of_getElem? (i := 7) (by decide +kernel))⟩⟩
theorem fl_XProver_130 : qFl "FlushProofs$Prover" 130 1 7 false := ⟨"FlushProofs$Core", qU1, 8, rfl, by decide, rfl, fun h _ => absurd h (by decide), Or.inr ⟨"FlushProofs", (List.mem_of_getElem? (i := 8) (by decide +kernel))⟩⟩
theorem fl_XProver_136 : qFl "FlushProofs$Prover" 136 1 2 true := ⟨"FlushProofs$Core", qU1, 8, rfl, by decide, rfl, fun _ h => absurd h (by decide), Or.inr ⟨"FlushProofs", (List.mem_of_getElem? (i := 9) (by decide +kernel))⟩⟩
theorem fl_XProver_14 : qFl "FlushProofs$Prover" 14 5 0 true := ⟨"FlushProofs$Prover", qU5, 7, rfl, by decide, rfl, fun _ _ => ⟨rfl, (List.mem_of_getElem? (i := 157) (by decide +kernel))⟩, Or.inl (List.mem_of_getElem? (i := 157) (by decide +kernel))⟩
theorem fl_XProver_143 : qFl "FlushProofs$Prover" 143 2 8 false := ⟨"FlushProofs$Nodes", qU2, 9, rfl, by decide, rfl, fun h _ => absurd h (by decide), Or.inr ⟨"FlushProofs", (List.mem_of_getElem? (i := 10) (by decide +kernel))⟩⟩
theorem fl_XProver_146 : qFl "FlushProofs$Prover" 146 6 3 false := ⟨"FlushProofs$Question", qU6, 5, rfl, by decide, rfl, fun h _ => absurd h (by decide), Or.inr ⟨"FlushProofs", (List.mem_of_getElem? (i := 11) (by decide +kernel))⟩⟩
theorem fl_XProver_147 : qFl "FlushProofs$Prover" 147 6 0 true := ⟨"FlushProofs$Question", qU6, 5, rfl, by decide, rfl, fun _ h => absurd h (by decide), Or.inr ⟨"FlushProofs", (List.mem_of_getElem? (i := 12) (by decide +kernel))⟩⟩
theorem fl_XProver_152 : qFl "FlushProofs$Prover" 152 2 0 true := ⟨"FlushProofs$Nodes", qU2, 9, rfl, by decide, rfl, fun _ h => absurd h (by decide), Or.inr ⟨"FlushProofs", (List.mem_of_getElem? (i := 13) (by decide +kernel))⟩⟩
theorem fl_XProver_155 : qFl "FlushProofs$Prover" 155 3 5 false := ⟨"FlushProofs$Outcome", qU3, 7, rfl, by decide, rfl, fun h _ => absurd h (by decide), Or.inr ⟨"FlushProofs", (List.mem_of_getElem? (i := 14) (by decide +kernel))⟩⟩
theorem fl_XProver_158 : qFl "FlushProofs$Prover" 158 3 6 false := ⟨"FlushProofs$Outcome", qU3, 7, rfl, by decide, rfl, fun h _ => absurd h (by decide), Or.inr ⟨"FlushProofs", (List.mem_of_getElem? (i := 15) (by decide +kernel))⟩⟩
theorem fl_XProver_165 : qFl "FlushProofs$Prover" 165 3 1 false := ⟨"FlushProofs$Outcome", qU3, 7, rfl, by decide, rfl, fun h _ => absurd h (by decide), Or.inr ⟨"FlushProofs", (List.mem_of_getElem? (i := 16) (by decide +kernel))⟩⟩
theorem fl_XProver_168 : qFl "FlushProofs$Prover" 168 6 4 false := ⟨"FlushProofs$Question", qU6, 5, rfl, by decide, rfl, fun h _ => absurd h (by decide), Or.inr ⟨"FlushProofs", (List.mem_of_getElem? (i := 17) (by decide +kernel))⟩⟩
theorem fl_XProver_181 : qFl "FlushProofs$Prover" 181 6 1 true := ⟨"FlushProofs$Question", qU6, 5, rfl, by decide, rfl, fun _ h => absurd h (by decide), Or.inr ⟨"FlushProofs", (List.mem_of_getElem? (i := 18) (by decide +kernel))⟩⟩
theorem fl_XProver_23 : qFl "FlushProofs$Prover" 23 5 1 true := ⟨"FlushProofs$Prover", qU5, 7, rfl, by decide, rfl, fun _ _ => ⟨rfl, (List.mem_of_getElem? (i := 158) (by decide +kernel))⟩, Or.inl (List.mem_of_getElem? (i := 158) (by decide +kernel))⟩
theorem fl_XProver_32 : qFl "FlushProofs$Prover" 32 5 2 true := ⟨"FlushProofs$Prover", qU5, 7, rfl, by decide, rfl, fun _ _ => ⟨rfl, (List.mem_of_getElem? (i := 159) (by decide +kernel))⟩, Or.inl (List.mem_of_getElem? (i := 159) (by decide +kernel))⟩
theorem fl_XProver_36 : qFl "FlushProofs$Prover" 36 5 3 true := ⟨"FlushProofs$Prover", qU5, 7, rfl, by decide, rfl, fun _ _ => ⟨rfl, (List.mem_of_getElem? (i := 160) (by decide +kernel))⟩, Or.inl (List.mem_of_getElem? (i := 160) (by decide +kernel))⟩
theorem fl_XProver_40 : qFl "FlushProofs$Prover" 40 5 4 true := ⟨"FlushProofs$Prover", qU5, 7, rfl, by decide, rfl, fun _ _ => ⟨rfl, (List.mem_of_getElem? (i := 161) (by decide +kernel))⟩, Or.inl (List.mem_of_getElem? (i := 161) (by decide +kernel))⟩
theorem fl_XProver_44 : qFl "FlushProofs$Prover" 44 5 5 true := ⟨"FlushProofs$Prover", qU5, 7, rfl, by decide, rfl, fun _ _ => ⟨rfl, (List.mem_of_getElem? (i := 162) (by decide +kernel))⟩, Or.inl (List.mem_of_getElem? (i := 162) (by decide +kernel))⟩
theorem fl_XProver_47 : qFl "FlushProofs$Prover" 47 5 6 true := ⟨"FlushProofs$Prover", qU5, 7, rfl, by decide, rfl, fun _ _ => ⟨rfl, (List.mem_of_getElem? (i := 163) (by decide +kernel))⟩, Or.inl (List.mem_of_getElem? (i := 163) (by decide +kernel))⟩
theorem fl_XProver_54 : qFl "FlushProofs$Prover" 54 1 5 false := ⟨"FlushProofs$Core", qU1, 8, rfl, by decide, rfl, fun h _ => absurd h (by decide), Or.inr ⟨"FlushProofs", (List.mem_of_getElem? (i := 19) (by decide +kernel))⟩⟩
theorem fl_XProver_80 : qFl "FlushProofs$Prover" 80 1 3 true := ⟨"FlushProofs$Core", qU1, 8, rfl, by decide, rfl, fun _ h => absurd h (by decide), Or.inr ⟨"FlushProofs", (List.mem_of_getElem? (i := 20) (by decide +kernel))⟩⟩
theorem fl_XQuestion_15 : qFl "FlushProofs$Question" 15 6 1 true := ⟨"FlushProofs$Question", qU6, 5, rfl, by decide, rfl, fun _ _ => ⟨rfl, (List.mem_of_getElem? (i := 164) (by decide +kernel))⟩, Or.inl (List.mem_of_getElem? (i := 164) (by decide +kernel))⟩
theorem fl_XQuestion_18 : qFl "FlushProofs$Question" 18 6 2 true := ⟨"FlushProofs$Question", qU6, 5, rfl, by decide, rfl, fun _ _ => ⟨rfl, (List.mem_of_getElem? (i := 165) (by decide +kernel))⟩, Or.inl (List.mem_of_getElem? (i := 165) (by decide +kernel))⟩
theorem fl_XQuestion_21 : qFl "FlushProofs$Question" 21 6 3 false := ⟨"FlushProofs$Question", qU6, 5, rfl, by decide, rfl, fun h _ => absurd h (by decide), Or.inl (List.mem_of_getElem? (i := 166) (by decide +kernel))⟩
theorem fl_XQuestion_25 : qFl "FlushProofs$Question" 25 6 4 false := ⟨"FlushProofs$Question", qU6, 5, rfl, by decide, rfl, fun h _ => absurd h (by decide), Or.inl (List.mem_of_getElem? (i := 167) (by decide +kernel))⟩
theorem fl_XQuestion_9 : qFl "FlushProofs$Question" 9 6 0 true := ⟨"FlushProofs$Question", qU6, 5, rfl, by decide, rfl, fun _ _ => ⟨rfl, (List.mem_of_getElem? (i := 168) (by decide +kernel))⟩, Or.inl (List.mem_of_getElem? (i := 168) (by decide +kernel))⟩
theorem fl_XSearch_100 : qFl "FlushProofs$Search" 100 3 4 false := ⟨"FlushProofs$Outcome", qU3, 7, rfl, by decide, rfl, fun h _ => absurd h (by decide), Or.inr ⟨"FlushProofs", (List.mem_of_getElem? (i := 21) (by decide +kernel))⟩⟩
theorem fl_XSearch_105 : qFl "FlushProofs$Search" 105 3 3 false := ⟨"FlushProofs$Outcome", qU3, 7, rfl, by decide, rfl, fun h _ => absurd h (by decide), Or.inr ⟨"FlushProofs", (List.mem_of_getElem? (i := 22) (by decide +kernel))⟩⟩
theorem fl_XSearch_108 : qFl "FlushProofs$Search" 108 3 0 true := ⟨"FlushProofs$Outcome", qU3, 7, rfl, by decide, rfl, fun _ h => absurd h (by decide), Or.inr ⟨"FlushProofs", (List.mem_of_getElem? (i := 23) (by decide +kernel))⟩⟩
theorem fl_XSearch_109 : qFl "FlushProofs$Search" 109 2 1 true := ⟨"FlushProofs$Nodes", qU2, 9, rfl, by decide, rfl, fun _ h => absurd h (by decide), Or.inr ⟨"FlushProofs", (List.mem_of_getElem? (i := 24) (by decide +kernel))⟩⟩
theorem fl_XSearch_112 : qFl "FlushProofs$Search" 112 7 12 false := ⟨"FlushProofs$Search", qU7, 15, rfl, by decide, rfl, fun h _ => absurd h (by decide), Or.inl (List.mem_of_getElem? (i := 169) (by decide +kernel))⟩
theorem fl_XSearch_115 : qFl "FlushProofs$Search" 115 7 11 false := ⟨"FlushProofs$Search", qU7, 15, rfl, by decide, rfl, fun h _ => absurd h (by decide), Or.inl (List.mem_of_getElem? (i := 170) (by decide +kernel))⟩
theorem fl_XSearch_118 : qFl "FlushProofs$Search" 118 2 8 false := ⟨"FlushProofs$Nodes", qU2, 9, rfl, by decide, rfl, fun h _ => absurd h (by decide), Or.inr ⟨"FlushProofs", (List.mem_of_getElem? (i := 25) (by decide +kernel))⟩⟩
theorem fl_XSearch_121 : qFl "FlushProofs$Search" 121 2 0 true := ⟨"FlushProofs$Nodes", qU2, 9, rfl, by decide, rfl, fun _ h => absurd h (by decide), Or.inr ⟨"FlushProofs", (List.mem_of_getElem? (i := 26) (by decide +kernel))⟩⟩
theorem fl_XSearch_141 : qFl "FlushProofs$Search" 141 2 2 true := ⟨"FlushProofs$Nodes", qU2, 9, rfl, by decide, rfl, fun _ h => absurd h (by decide), Or.inr ⟨"FlushProofs", (List.mem_of_getElem? (i := 27) (by decide +kernel))⟩⟩
theorem fl_XSearch_15 : qFl "FlushProofs$Search" 15 7 1 true := ⟨"FlushProofs$Search", qU7, 15, rfl, by decide, rfl, fun _ _ => ⟨rfl, (List.mem_of_getElem? (i := 171) (by decide +kernel))⟩, Or.inl (List.mem_of_getElem? (i := 171) (by decide +kernel))⟩
theorem fl_XSearch_150 : qFl "FlushProofs$Search" 150 2 3 true := ⟨"FlushProofs$Nodes", qU2, 9, rfl, by decide, rfl, fun _ h => absurd h (by decide), Or.inr ⟨"FlushProofs", (List.mem_of_getElem? (i := 28) (by decide +kernel))⟩⟩
theorem fl_XSearch_172 : qFl "FlushProofs$Search" 172 6 3 false := ⟨"FlushProofs$Question", qU6, 5, rfl, by decide, rfl, fun h _ => absurd h (by decide), Or.inr ⟨"FlushProofs", (List.mem_of_getElem? (i := 29) (by decide +kernel))⟩⟩
theorem fl_XSearch_175 : qFl "FlushProofs$Search" 175 6 0 true := ⟨"FlushProofs$Question", qU6, 5, rfl, by decide, rfl, fun _ h => absurd h (by decide), Or.inr ⟨"FlushProofs", (List.mem_of_getElem? (i := 30) (by decide +kernel))⟩⟩
theorem fl_XSearch_202 : qFl "FlushProofs$Search" 202 6 4 false := ⟨"FlushProofs$Question", qU6, 5, rfl, by decide, rfl, fun h _ => absurd h (by decide), Or.inr ⟨"FlushProofs", (List.mem_of_getElem? (i := 31) (by decide +kernel))⟩⟩
theorem fl_XSearch_205 : qFl "FlushProofs$Search" 205 6 1 true := ⟨"FlushProofs$Question", qU6, 5, rfl, by decide, rfl, fun _ h => absurd h (by decide), Or.inr ⟨"FlushProofs", (List.mem_of_getElem? (i := 32) (by decide +kernel))⟩⟩
theorem fl_XSearch_24 : qFl "FlushProofs$Search" 24 7 2 true := ⟨"FlushProofs$Search", qU7, 15, rfl, by decide, rfl, fun _ _ => ⟨rfl, (List.mem_of_getElem? (i := 172) (by decide +kernel))⟩, Or.inl (List.mem_of_getElem? (i := 172) (by decide +kernel))⟩
theorem fl_XSearch_28 : qFl "FlushProofs$Search" 28 7 3 true := ⟨"FlushProofs$Search", qU7, 15, rfl, by decide, rfl, fun _ _ => ⟨rfl, (List.mem_of_getElem? (i := 173) (by decide +kernel))⟩, Or.inl (List.mem_of_getElem? (i := 173) (by decide +kernel))⟩
theorem fl_XSearch_32 : qFl "FlushProofs$Search" 32 7 4 true := ⟨"FlushProofs$Search", qU7, 15, rfl, by decide, rfl, fun _ _ => ⟨rfl, (List.mem_of_getElem? (i := 174) (by decide +kernel))⟩, Or.inl (List.mem_of_getElem? (i := 174) (by decide +kernel))⟩
theorem fl_XSearch_35 : qFl "FlushProofs$Search" 35 7 5 true := ⟨"FlushProofs$Search", qU7, 15, rfl, by decide, rfl, fun _ _ => ⟨rfl, (List.mem_of_getElem? (i := 175) (by decide +kernel))⟩, Or.inl (List.mem_of_getElem? (i := 175) (by decide +kernel))⟩
theorem fl_XSearch_44 : qFl "FlushProofs$Search" 44 7 6 true := ⟨"FlushProofs$Search", qU7, 15, rfl, by decide, rfl, fun _ _ => ⟨rfl, (List.mem_of_getElem? (i := 176) (by decide +kernel))⟩, Or.inl (List.mem_of_getElem? (i := 176) (by decide +kernel))⟩
theorem fl_XSearch_47 : qFl "FlushProofs$Search" 47 7 7 true := ⟨"FlushProofs$Search", qU7, 15, rfl, by decide, rfl, fun _ _ => ⟨rfl, (List.mem_of_getElem? (i := 177) (by decide +kernel))⟩, Or.inl (List.mem_of_getElem? (i := 177) (by decide +kernel))⟩
theorem fl_XSearch_50 : qFl "FlushProofs$Search" 50 7 8 true := ⟨"FlushProofs$Search", qU7, 15, rfl, by decide, rfl, fun _ _ => ⟨rfl, (List.mem_of_getElem? (i := 178) (by decide +kernel))⟩, Or.inl (List.mem_of_getElem? (i := 178) (by decide +kernel))⟩
theorem fl_XSearch_53 : qFl "FlushProofs$Search" 53 7 9 true := ⟨"FlushProofs$Search", qU7, 15, rfl, by decide, rfl, fun _ _ => ⟨rfl, (List.mem_of_getElem? (i := 179) (by decide +kernel))⟩, Or.inl (List.mem_of_getElem? (i := 179) (by decide +kernel))⟩
theorem fl_XSearch_56 : qFl "FlushProofs$Search" 56 7 13 false := ⟨"FlushProofs$Search", qU7, 15, rfl, by decide, rfl, fun h _ => absurd h (by decide), Or.inl (List.mem_of_getElem? (i := 180) (by decide +kernel))⟩
theorem fl_XSearch_60 : qFl "FlushProofs$Search" 60 7 14 false := ⟨"FlushProofs$Search", qU7, 15, rfl, by decide, rfl, fun h _ => absurd h (by decide), Or.inl (List.mem_of_getElem? (i := 181) (by decide +kernel))⟩
theorem fl_XSearch_80 : qFl "FlushProofs$Search" 80 7 10 false := ⟨"FlushProofs$Search", qU7, 15, rfl, by decide, rfl, fun h _ => absurd h (by decide), Or.inl (List.mem_of_getElem? (i := 182) (by decide +kernel))⟩
theorem fl_XSearch_9 : qFl "FlushProofs$Search" 9 7 0 true := ⟨"FlushProofs$Search", qU7, 15, rfl, by decide, rfl, fun _ _ => ⟨rfl, (List.mem_of_getElem? (i := 183) (by decide +kernel))⟩, Or.inl (List.mem_of_getElem? (i := 183) (by decide +kernel))⟩
theorem fl_XSearch_95 : qFl "FlushProofs$Search" 95 6 2 true := ⟨"FlushProofs$Question", qU6, 5, rfl, by decide, rfl, fun _ h => absurd h (by decide), Or.inr ⟨"FlushProofs", (List.mem_of_getElem? (i := 33) (by decide +kernel))⟩⟩
theorem fl_X_10 : qFl "FlushProofs" 10 0 0 true := ⟨"FlushProofs", qU0, 3, rfl, by decide, rfl, fun _ _ => ⟨rfl, (List.mem_of_getElem? (i := 184) (by decide +kernel))⟩, Or.inl (List.mem_of_getElem? (i := 184) (by decide +kernel))⟩
theorem fl_X_102 : qFl "FlushProofs" 102 1 7 false := ⟨"FlushProofs$Core", qU1, 8, rfl, by decide, rfl, fun h _ => absurd h (by decide), Or.inr ⟨"FlushProofs", (List.mem_of_getElem? (i := 34) (by decide +kernel))⟩⟩
theorem fl_X_127 : qFl "FlushProofs" 127 3 1 false := ⟨"FlushProofs$Outcome", qU3, 7, rfl, by decide, rfl, fun h _ => absurd h (by decide), Or.inr ⟨"FlushProofs", (List.mem_of_getElem? (i := 35) (by decide +kernel))⟩⟩
theorem fl_X_141 : qFl "FlushProofs" 141 3 3 false := ⟨"FlushProofs$Outcome", qU3, 7, rfl, by decide, rfl, fun h _ => absurd h (by decide), Or.inr ⟨"FlushProofs", (List.mem_of_getElem? (i := 36) (by decide +kernel))⟩⟩
theorem fl_X_144 : qFl "FlushProofs" 144 3 2 false := ⟨"FlushProofs$Outcome", qU3, 7, rfl, by decide, rfl, fun h _ => absurd h (by decide), Or.inr ⟨"FlushProofs", (List.mem_of_getElem? (i := 37) (by decide +kernel))⟩⟩
theorem fl_X_149 : qFl "FlushProofs" 149 3 0 true := ⟨"FlushProofs$Outcome", qU3, 7, rfl, by decide, rfl, fun _ h => absurd h (by decide), Or.inr ⟨"FlushProofs", (List.mem_of_getElem? (i := 38) (by decide +kernel))⟩⟩
theorem fl_X_152 : qFl "FlushProofs" 152 3 4 false := ⟨"FlushProofs$Outcome", qU3, 7, rfl, by decide, rfl, fun h _ => absurd h (by decide), Or.inr ⟨"FlushProofs", (List.mem_of_getElem? (i := 39) (by decide +kernel))⟩⟩
theorem fl_X_155 : qFl "FlushProofs" 155 2 0 true := ⟨"FlushProofs$Nodes", qU2, 9, rfl, by decide, rfl, fun _ h => absurd h (by decide), Or.inr ⟨"FlushProofs", (List.mem_of_getElem? (i := 40) (by decide +kernel))⟩⟩
theorem fl_X_158 : qFl "FlushProofs" 158 2 1 true := ⟨"FlushProofs$Nodes", qU2, 9, rfl, by decide, rfl, fun _ h => absurd h (by decide), Or.inr ⟨"FlushProofs", (List.mem_of_getElem? (i := 41) (by decide +kernel))⟩⟩
theorem fl_X_161 : qFl "FlushProofs" 161 2 2 true := ⟨"FlushProofs$Nodes", qU2, 9, rfl, by decide, rfl, fun _ h => absurd h (by decide), Or.inr ⟨"FlushProofs", (List.mem_of_getElem? (i := 42) (by decide +kernel))⟩⟩
theorem fl_X_164 : qFl "FlushProofs" 164 2 3 true := ⟨"FlushProofs$Nodes", qU2, 9, rfl, by decide, rfl, fun _ h => absurd h (by decide), Or.inr ⟨"FlushProofs", (List.mem_of_getElem? (i := 43) (by decide +kernel))⟩⟩
theorem fl_X_169 : qFl "FlushProofs" 169 2 8 false := ⟨"FlushProofs$Nodes", qU2, 9, rfl, by decide, rfl, fun h _ => absurd h (by decide), Or.inr ⟨"FlushProofs", (List.mem_of_getElem? (i := 44) (by decide +kernel))⟩⟩
theorem fl_X_172 : qFl "FlushProofs" 172 1 5 false := ⟨"FlushProofs$Core", qU1, 8, rfl, by decide, rfl, fun h _ => absurd h (by decide), Or.inr ⟨"FlushProofs", (List.mem_of_getElem? (i := 45) (by decide +kernel))⟩⟩
theorem fl_X_173 : qFl "FlushProofs" 173 1 6 false := ⟨"FlushProofs$Core", qU1, 8, rfl, by decide, rfl, fun h _ => absurd h (by decide), Or.inr ⟨"FlushProofs", (List.mem_of_getElem? (i := 46) (by decide +kernel))⟩⟩
theorem fl_X_176 : qFl "FlushProofs" 176 3 5 false := ⟨"FlushProofs$Outcome", qU3, 7, rfl, by decide, rfl, fun h _ => absurd h (by decide), Or.inr ⟨"FlushProofs", (List.mem_of_getElem? (i := 47) (by decide +kernel))⟩⟩
theorem fl_X_179 : qFl "FlushProofs" 179 3 6 false := ⟨"FlushProofs$Outcome", qU3, 7, rfl, by decide, rfl, fun h _ => absurd h (by decide), Or.inr ⟨"FlushProofs", (List.mem_of_getElem? (i := 48) (by decide +kernel))⟩⟩
theorem fl_X_19 : qFl "FlushProofs" 19 0 1 true := ⟨"FlushProofs", qU0, 3, rfl, by decide, rfl, fun _ _ => ⟨rfl, (List.mem_of_getElem? (i := 185) (by decide +kernel))⟩, Or.inl (List.mem_of_getElem? (i := 185) (by decide +kernel))⟩
theorem fl_X_28 : qFl "FlushProofs" 28 0 2 false := ⟨"FlushProofs", qU0, 3, rfl, by decide, rfl, fun h _ => absurd h (by decide), Or.inl (List.mem_of_getElem? (i := 186) (by decide +kernel))⟩
theorem fl_X_52 : qFl "FlushProofs" 52 1 0 true := ⟨"FlushProofs$Core", qU1, 8, rfl, by decide, rfl, fun _ h => absurd h (by decide), Or.inr ⟨"FlushProofs", (List.mem_of_getElem? (i := 49) (by decide +kernel))⟩⟩
theorem fl_X_88 : qFl "FlushProofs" 88 1 1 true := ⟨"FlushProofs$Core", qU1, 8, rfl, by decide, rfl, fun _ h => absurd h (by decide), Or.inr ⟨"FlushProofs", (List.mem_of_getElem? (i := 50) (by decide +kernel))⟩⟩
theorem cv_XCore_20 : qCv "FlushProofs$Core" 20 2 Y_XNodes_reset 0 := ⟨⟨(List.mem_of_getElem? (i := 5) rfl), (List.mem_of_getElem? (i := 187) (by decide +kernel)), by decide, by decide, by decide +kernel⟩, ⟨qU2, 9, rfl⟩, (List.mem_of_getElem? (i := 188) (by decide +kernel)), (List.mem_of_getElem? (i := 189) (by decide +kernel)), Or.inl (List.mem_of_getElem? (i := 190) (by decide +kernel))⟩
theorem cv_XCore_40 : qCv "FlushProofs$Core" 40 2 Y_XNodes_makeElement 2 := ⟨⟨(List.mem_of_getElem? (i := 7) rfl), (List.mem_of_getElem? (i := 187) (by decide +kernel)), by decide, by decide, by decide +kernel⟩, ⟨qU2, 9, rfl⟩, (List.mem_of_getElem? (i := 191) (by decide +kernel)), (List.mem_of_getElem? (i := 192) (by decide +kernel)), Or.inl (List.mem_of_getElem? (i := 193) (by decide +kernel))⟩
theorem cv_XLaw_100 : qCv "FlushProofsLaw" 100 8 Y_XModel_choice 3 := ⟨⟨(List.mem_of_getElem? (i := 120) rfl), (List.mem_of_getElem? (i := 194) (by decide +kernel)), by decide, by decide, by decide +kernel⟩, ⟨qU8, 36, rfl⟩, (List.mem_of_getElem? (i := 195) (by decide +kernel)), (List.mem_of_getElem? (i := 196) (by decide +kernel)), Or.inl (List.mem_of_getElem? (i := 197) (by decide +kernel))⟩
theorem cv_XLaw_103 : qCv "FlushProofsLaw" 103 8 Y_XModel_next 2 := ⟨⟨(List.mem_of_getElem? (i := 123) rfl), (List.mem_of_getElem? (i := 194) (by decide +kernel)), by decide, by decide, by decide +kernel⟩, ⟨qU8, 36, rfl⟩, (List.mem_of_getElem? (i := 198) (by decide +kernel)), (List.mem_of_getElem? (i := 199) (by decide +kernel)), Or.inl (List.mem_of_getElem? (i := 200) (by decide +kernel))⟩
theorem cv_XLaw_106 : qCv "FlushProofsLaw" 106 8 Y_XModel_plain 2 := ⟨⟨(List.mem_of_getElem? (i := 128) rfl), (List.mem_of_getElem? (i := 194) (by decide +kernel)), by decide, by decide, by decide +kernel⟩, ⟨qU8, 36, rfl⟩, (List.mem_of_getElem? (i := 201) (by decide +kernel)), (List.mem_of_getElem? (i := 202) (by decide +kernel)), Or.inl (List.mem_of_getElem? (i := 203) (by decide +kernel))⟩
theorem cv_XLaw_109 : qCv "FlushProofsLaw" 109 8 Y_XModel_invariant 1 := ⟨⟨(List.mem_of_getElem? (i := 129) rfl), (List.mem_of_getElem? (i := 194) (by decide +kernel)), by decide, by decide, by decide +kernel⟩, ⟨qU8, 36, rfl⟩, (List.mem_of_getElem? (i := 204) (by decide +kernel)), (List.mem_of_getElem? (i := 205) (by decide +kernel)), Or.inl (List.mem_of_getElem? (i := 206) (by decide +kernel))⟩
theorem cv_XLaw_112 : qCv "FlushProofsLaw" 112 8 Y_XModel_run 1 := ⟨⟨(List.mem_of_getElem? (i := 143) rfl), (List.mem_of_getElem? (i := 194) (by decide +kernel)), by decide, by decide, by decide +kernel⟩, ⟨qU8, 36, rfl⟩, (List.mem_of_getElem? (i := 207) (by decide +kernel)), (List.mem_of_getElem? (i := 208) (by decide +kernel)), Or.inl (List.mem_of_getElem? (i := 209) (by decide +kernel))⟩
theorem cv_XLaw_115 : qCv "FlushProofsLaw" 115 8 Y_XModel_kept 1 := ⟨⟨(List.mem_of_getElem? (i := 144) rfl), (List.mem_of_getElem? (i := 194) (by decide +kernel)), by decide, by decide, by decide +kernel⟩, ⟨qU8, 36, rfl⟩, (List.mem_of_getElem? (i := 210) (by decide +kernel)), (List.mem_of_getElem? (i := 211) (by decide +kernel)), Or.inl (List.mem_of_getElem? (i := 212) (by decide +kernel))⟩
theorem cv_XLaw_118 : qCv "FlushProofsLaw" 118 8 Y_XModel_witness 1 := ⟨⟨(List.mem_of_getElem? (i := 145) rfl), (List.mem_of_getElem? (i := 194) (by decide +kernel)), by decide, by decide, by decide +kernel⟩, ⟨qU8, 36, rfl⟩, (List.mem_of_getElem? (i := 213) (by decide +kernel)), (List.mem_of_getElem? (i := 214) (by decide +kernel)), Or.inl (List.mem_of_getElem? (i := 215) (by decide +kernel))⟩
theorem cv_XLaw_121 : qCv "FlushProofsLaw" 121 8 Y_XModel_differs 0 := ⟨⟨(List.mem_of_getElem? (i := 146) rfl), (List.mem_of_getElem? (i := 194) (by decide +kernel)), by decide, by decide, by decide +kernel⟩, ⟨qU8, 36, rfl⟩, (List.mem_of_getElem? (i := 216) (by decide +kernel)), (List.mem_of_getElem? (i := 217) (by decide +kernel)), Or.inl (List.mem_of_getElem? (i := 218) (by decide +kernel))⟩
theorem cv_XLaw_124 : qCv "FlushProofsLaw" 124 8 Y_XModel_node 2 := ⟨⟨(List.mem_of_getElem? (i := 147) rfl), (List.mem_of_getElem? (i := 194) (by decide +kernel)), by decide, by decide, by decide +kernel⟩, ⟨qU8, 36, rfl⟩, (List.mem_of_getElem? (i := 219) (by decide +kernel)), (List.mem_of_getElem? (i := 220) (by decide +kernel)), Or.inl (List.mem_of_getElem? (i := 221) (by decide +kernel))⟩
theorem cv_XLaw_125 : qCv "FlushProofsLaw" 125 0 Y_X_count 1 := ⟨⟨(List.mem_of_getElem? (i := 99) rfl), (List.mem_of_getElem? (i := 222) (by decide +kernel)), by decide, by decide, by decide +kernel⟩, ⟨qU0, 3, rfl⟩, (List.mem_of_getElem? (i := 223) (by decide +kernel)), (List.mem_of_getElem? (i := 224) (by decide +kernel)), Or.inl (List.mem_of_getElem? (i := 225) (by decide +kernel))⟩
theorem cv_XLaw_128 : qCv "FlushProofsLaw" 128 8 Y_XModel_count 1 := ⟨⟨(List.mem_of_getElem? (i := 148) rfl), (List.mem_of_getElem? (i := 194) (by decide +kernel)), by decide, by decide, by decide +kernel⟩, ⟨qU8, 36, rfl⟩, (List.mem_of_getElem? (i := 226) (by decide +kernel)), (List.mem_of_getElem? (i := 227) (by decide +kernel)), Or.inl (List.mem_of_getElem? (i := 228) (by decide +kernel))⟩
theorem cv_XLaw_15 : qCv "FlushProofsLaw" 15 0 Y_X_truth 0 := ⟨⟨(List.mem_of_getElem? (i := 76) rfl), (List.mem_of_getElem? (i := 222) (by decide +kernel)), by decide, by decide, by decide +kernel⟩, ⟨qU0, 3, rfl⟩, (List.mem_of_getElem? (i := 229) (by decide +kernel)), (List.mem_of_getElem? (i := 230) (by decide +kernel)), Or.inl (List.mem_of_getElem? (i := 231) (by decide +kernel))⟩
theorem cv_XLaw_18 : qCv "FlushProofsLaw" 18 0 Y_X_apply 3 := ⟨⟨(List.mem_of_getElem? (i := 80) rfl), (List.mem_of_getElem? (i := 222) (by decide +kernel)), by decide, by decide, by decide +kernel⟩, ⟨qU0, 3, rfl⟩, (List.mem_of_getElem? (i := 232) (by decide +kernel)), (List.mem_of_getElem? (i := 233) (by decide +kernel)), Or.inl (List.mem_of_getElem? (i := 234) (by decide +kernel))⟩
theorem cv_XLaw_26 : qCv "FlushProofsLaw" 26 0 Y_X_equal 2 := ⟨⟨(List.mem_of_getElem? (i := 81) rfl), (List.mem_of_getElem? (i := 222) (by decide +kernel)), by decide, by decide, by decide +kernel⟩, ⟨qU0, 3, rfl⟩, (List.mem_of_getElem? (i := 235) (by decide +kernel)), (List.mem_of_getElem? (i := 236) (by decide +kernel)), Or.inl (List.mem_of_getElem? (i := 237) (by decide +kernel))⟩
theorem cv_XLaw_30 : qCv "FlushProofsLaw" 30 0 Y_X_not 1 := ⟨⟨(List.mem_of_getElem? (i := 83) rfl), (List.mem_of_getElem? (i := 222) (by decide +kernel)), by decide, by decide, by decide +kernel⟩, ⟨qU0, 3, rfl⟩, (List.mem_of_getElem? (i := 238) (by decide +kernel)), (List.mem_of_getElem? (i := 239) (by decide +kernel)), Or.inl (List.mem_of_getElem? (i := 240) (by decide +kernel))⟩
theorem cv_XLaw_34 : qCv "FlushProofsLaw" 34 0 Y_X_both 2 := ⟨⟨(List.mem_of_getElem? (i := 84) rfl), (List.mem_of_getElem? (i := 222) (by decide +kernel)), by decide, by decide, by decide +kernel⟩, ⟨qU0, 3, rfl⟩, (List.mem_of_getElem? (i := 241) (by decide +kernel)), (List.mem_of_getElem? (i := 242) (by decide +kernel)), Or.inl (List.mem_of_getElem? (i := 243) (by decide +kernel))⟩
theorem cv_XLaw_37 : qCv "FlushProofsLaw" 37 0 Y_X_choice 3 := ⟨⟨(List.mem_of_getElem? (i := 86) rfl), (List.mem_of_getElem? (i := 222) (by decide +kernel)), by decide, by decide, by decide +kernel⟩, ⟨qU0, 3, rfl⟩, (List.mem_of_getElem? (i := 244) (by decide +kernel)), (List.mem_of_getElem? (i := 245) (by decide +kernel)), Or.inl (List.mem_of_getElem? (i := 246) (by decide +kernel))⟩
theorem cv_XLaw_40 : qCv "FlushProofsLaw" 40 0 Y_X_next 2 := ⟨⟨(List.mem_of_getElem? (i := 88) rfl), (List.mem_of_getElem? (i := 222) (by decide +kernel)), by decide, by decide, by decide +kernel⟩, ⟨qU0, 3, rfl⟩, (List.mem_of_getElem? (i := 247) (by decide +kernel)), (List.mem_of_getElem? (i := 248) (by decide +kernel)), Or.inl (List.mem_of_getElem? (i := 249) (by decide +kernel))⟩
theorem cv_XLaw_44 : qCv "FlushProofsLaw" 44 0 Y_X_plain 2 := ⟨⟨(List.mem_of_getElem? (i := 90) rfl), (List.mem_of_getElem? (i := 222) (by decide +kernel)), by decide, by decide, by decide +kernel⟩, ⟨qU0, 3, rfl⟩, (List.mem_of_getElem? (i := 250) (by decide +kernel)), (List.mem_of_getElem? (i := 251) (by decide +kernel)), Or.inl (List.mem_of_getElem? (i := 252) (by decide +kernel))⟩
theorem cv_XLaw_47 : qCv "FlushProofsLaw" 47 0 Y_X_invariant 1 := ⟨⟨(List.mem_of_getElem? (i := 91) rfl), (List.mem_of_getElem? (i := 222) (by decide +kernel)), by decide, by decide, by decide +kernel⟩, ⟨qU0, 3, rfl⟩, (List.mem_of_getElem? (i := 253) (by decide +kernel)), (List.mem_of_getElem? (i := 254) (by decide +kernel)), Or.inl (List.mem_of_getElem? (i := 255) (by decide +kernel))⟩
theorem cv_XLaw_52 : qCv "FlushProofsLaw" 52 0 Y_X_run 1 := ⟨⟨(List.mem_of_getElem? (i := 93) rfl), (List.mem_of_getElem? (i := 222) (by decide +kernel)), by decide, by decide, by decide +kernel⟩, ⟨qU0, 3, rfl⟩, (List.mem_of_getElem? (i := 256) (by decide +kernel)), (List.mem_of_getElem? (i := 257) (by decide +kernel)), Or.inl (List.mem_of_getElem? (i := 258) (by decide +kernel))⟩
theorem cv_XLaw_55 : qCv "FlushProofsLaw" 55 0 Y_X_kept 1 := ⟨⟨(List.mem_of_getElem? (i := 94) rfl), (List.mem_of_getElem? (i := 222) (by decide +kernel)), by decide, by decide, by decide +kernel⟩, ⟨qU0, 3, rfl⟩, (List.mem_of_getElem? (i := 259) (by decide +kernel)), (List.mem_of_getElem? (i := 260) (by decide +kernel)), Or.inl (List.mem_of_getElem? (i := 261) (by decide +kernel))⟩
theorem cv_XLaw_58 : qCv "FlushProofsLaw" 58 0 Y_X_witness 1 := ⟨⟨(List.mem_of_getElem? (i := 96) rfl), (List.mem_of_getElem? (i := 222) (by decide +kernel)), by decide, by decide, by decide +kernel⟩, ⟨qU0, 3, rfl⟩, (List.mem_of_getElem? (i := 262) (by decide +kernel)), (List.mem_of_getElem? (i := 263) (by decide +kernel)), Or.inl (List.mem_of_getElem? (i := 264) (by decide +kernel))⟩
theorem cv_XLaw_61 : qCv "FlushProofsLaw" 61 0 Y_X_differs 0 := ⟨⟨(List.mem_of_getElem? (i := 97) rfl), (List.mem_of_getElem? (i := 222) (by decide +kernel)), by decide, by decide, by decide +kernel⟩, ⟨qU0, 3, rfl⟩, (List.mem_of_getElem? (i := 265) (by decide +kernel)), (List.mem_of_getElem? (i := 266) (by decide +kernel)), Or.inl (List.mem_of_getElem? (i := 267) (by decide +kernel))⟩
theorem cv_XLaw_64 : qCv "FlushProofsLaw" 64 0 Y_X_node 2 := ⟨⟨(List.mem_of_getElem? (i := 98) rfl), (List.mem_of_getElem? (i := 222) (by decide +kernel)), by decide, by decide, by decide +kernel⟩, ⟨qU0, 3, rfl⟩, (List.mem_of_getElem? (i := 268) (by decide +kernel)), (List.mem_of_getElem? (i := 269) (by decide +kernel)), Or.inl (List.mem_of_getElem? (i := 270) (by decide +kernel))⟩
theorem cv_XLaw_7 : qCv "FlushProofsLaw" 7 0 Y_X_word 0 := ⟨⟨(List.mem_of_getElem? (i := 75) rfl), (List.mem_of_getElem? (i := 222) (by decide +kernel)), by decide, by decide, by decide +kernel⟩, ⟨qU0, 3, rfl⟩, (List.mem_of_getElem? (i := 271) (by decide +kernel)), (List.mem_of_getElem? (i := 272) (by decide +kernel)), Or.inl (List.mem_of_getElem? (i := 273) (by decide +kernel))⟩
theorem cv_XLaw_76 : qCv "FlushProofsLaw" 76 8 Y_XModel_word 0 := ⟨⟨(List.mem_of_getElem? (i := 107) rfl), (List.mem_of_getElem? (i := 194) (by decide +kernel)), by decide, by decide, by decide +kernel⟩, ⟨qU8, 36, rfl⟩, (List.mem_of_getElem? (i := 274) (by decide +kernel)), (List.mem_of_getElem? (i := 275) (by decide +kernel)), Or.inl (List.mem_of_getElem? (i := 276) (by decide +kernel))⟩
theorem cv_XLaw_77 : qCv "FlushProofsLaw" 77 8 Y_XModel_thrown 0 := ⟨⟨(List.mem_of_getElem? (i := 108) rfl), (List.mem_of_getElem? (i := 194) (by decide +kernel)), by decide, by decide, by decide +kernel⟩, ⟨qU8, 36, rfl⟩, (List.mem_of_getElem? (i := 277) (by decide +kernel)), (List.mem_of_getElem? (i := 278) (by decide +kernel)), Or.inl (List.mem_of_getElem? (i := 279) (by decide +kernel))⟩
theorem cv_XLaw_82 : qCv "FlushProofsLaw" 82 8 Y_XModel_truth 0 := ⟨⟨(List.mem_of_getElem? (i := 109) rfl), (List.mem_of_getElem? (i := 194) (by decide +kernel)), by decide, by decide, by decide +kernel⟩, ⟨qU8, 36, rfl⟩, (List.mem_of_getElem? (i := 280) (by decide +kernel)), (List.mem_of_getElem? (i := 281) (by decide +kernel)), Or.inl (List.mem_of_getElem? (i := 282) (by decide +kernel))⟩
theorem cv_XLaw_86 : qCv "FlushProofsLaw" 86 8 Y_XModel_apply 3 := ⟨⟨(List.mem_of_getElem? (i := 116) rfl), (List.mem_of_getElem? (i := 194) (by decide +kernel)), by decide, by decide, by decide +kernel⟩, ⟨qU8, 36, rfl⟩, (List.mem_of_getElem? (i := 283) (by decide +kernel)), (List.mem_of_getElem? (i := 284) (by decide +kernel)), Or.inl (List.mem_of_getElem? (i := 285) (by decide +kernel))⟩
theorem cv_XLaw_90 : qCv "FlushProofsLaw" 90 8 Y_XModel_equal 2 := ⟨⟨(List.mem_of_getElem? (i := 117) rfl), (List.mem_of_getElem? (i := 194) (by decide +kernel)), by decide, by decide, by decide +kernel⟩, ⟨qU8, 36, rfl⟩, (List.mem_of_getElem? (i := 286) (by decide +kernel)), (List.mem_of_getElem? (i := 287) (by decide +kernel)), Or.inl (List.mem_of_getElem? (i := 288) (by decide +kernel))⟩
theorem cv_XLaw_94 : qCv "FlushProofsLaw" 94 8 Y_XModel_not 1 := ⟨⟨(List.mem_of_getElem? (i := 118) rfl), (List.mem_of_getElem? (i := 194) (by decide +kernel)), by decide, by decide, by decide +kernel⟩, ⟨qU8, 36, rfl⟩, (List.mem_of_getElem? (i := 289) (by decide +kernel)), (List.mem_of_getElem? (i := 290) (by decide +kernel)), Or.inl (List.mem_of_getElem? (i := 291) (by decide +kernel))⟩
theorem cv_XLaw_97 : qCv "FlushProofsLaw" 97 8 Y_XModel_both 2 := ⟨⟨(List.mem_of_getElem? (i := 119) rfl), (List.mem_of_getElem? (i := 194) (by decide +kernel)), by decide, by decide, by decide +kernel⟩, ⟨qU8, 36, rfl⟩, (List.mem_of_getElem? (i := 292) (by decide +kernel)), (List.mem_of_getElem? (i := 293) (by decide +kernel)), Or.inl (List.mem_of_getElem? (i := 294) (by decide +kernel))⟩
theorem cv_XModel_102 : qCv "FlushProofsModel" 102 8 Y_XModel_add 4 := ⟨⟨(List.mem_of_getElem? (i := 105) rfl), (List.mem_of_getElem? (i := 194) (by decide +kernel)), by decide, by decide, by decide +kernel⟩, ⟨qU8, 36, rfl⟩, (List.mem_of_getElem? (i := 295) (by decide +kernel)), (List.mem_of_getElem? (i := 296) (by decide +kernel)), Or.inl (List.mem_of_getElem? (i := 297) (by decide +kernel))⟩
theorem cv_XModel_105 : qCv "FlushProofsModel" 105 8 Y_XModel_plainest 4 := ⟨⟨(List.mem_of_getElem? (i := 113) rfl), (List.mem_of_getElem? (i := 194) (by decide +kernel)), by decide, by decide, by decide +kernel⟩, ⟨qU8, 36, rfl⟩, (List.mem_of_getElem? (i := 298) (by decide +kernel)), (List.mem_of_getElem? (i := 299) (by decide +kernel)), Or.inl (List.mem_of_getElem? (i := 300) (by decide +kernel))⟩
theorem cv_XModel_108 : qCv "FlushProofsModel" 108 8 Y_XModel_get 4 := ⟨⟨(List.mem_of_getElem? (i := 131) rfl), (List.mem_of_getElem? (i := 194) (by decide +kernel)), by decide, by decide, by decide +kernel⟩, ⟨qU8, 36, rfl⟩, (List.mem_of_getElem? (i := 301) (by decide +kernel)), (List.mem_of_getElem? (i := 302) (by decide +kernel)), Or.inl (List.mem_of_getElem? (i := 303) (by decide +kernel))⟩
theorem cv_XModel_111 : qCv "FlushProofsModel" 111 8 Y_XModel_fail 1 := ⟨⟨(List.mem_of_getElem? (i := 104) rfl), (List.mem_of_getElem? (i := 194) (by decide +kernel)), by decide, by decide, by decide +kernel⟩, ⟨qU8, 36, rfl⟩, (List.mem_of_getElem? (i := 304) (by decide +kernel)), (List.mem_of_getElem? (i := 305) (by decide +kernel)), Or.inl (List.mem_of_getElem? (i := 306) (by decide +kernel))⟩
theorem cv_XModel_122 : qCv "FlushProofsModel" 122 8 Y_XModel_addElement 1 := ⟨⟨(List.mem_of_getElem? (i := 106) rfl), (List.mem_of_getElem? (i := 194) (by decide +kernel)), by decide, by decide, by decide +kernel⟩, ⟨qU8, 36, rfl⟩, (List.mem_of_getElem? (i := 307) (by decide +kernel)), (List.mem_of_getElem? (i := 308) (by decide +kernel)), Or.inl (List.mem_of_getElem? (i := 309) (by decide +kernel))⟩
theorem cv_XModel_125 : qCv "FlushProofsModel" 125 8 Y_XModel_isNode 1 := ⟨⟨(List.mem_of_getElem? (i := 111) rfl), (List.mem_of_getElem? (i := 194) (by decide +kernel)), by decide, by decide, by decide +kernel⟩, ⟨qU8, 36, rfl⟩, (List.mem_of_getElem? (i := 310) (by decide +kernel)), (List.mem_of_getElem? (i := 311) (by decide +kernel)), Or.inl (List.mem_of_getElem? (i := 312) (by decide +kernel))⟩
theorem cv_XModel_129 : qCv "FlushProofsModel" 129 8 Y_XModel_isWord 1 := ⟨⟨(List.mem_of_getElem? (i := 112) rfl), (List.mem_of_getElem? (i := 194) (by decide +kernel)), by decide, by decide, by decide +kernel⟩, ⟨qU8, 36, rfl⟩, (List.mem_of_getElem? (i := 313) (by decide +kernel)), (List.mem_of_getElem? (i := 314) (by decide +kernel)), Or.inl (List.mem_of_getElem? (i := 315) (by decide +kernel))⟩
theorem cv_XModel_132 : qCv "FlushProofsModel" 132 8 Y_XModel_told 5 := ⟨⟨(List.mem_of_getElem? (i := 115) rfl), (List.mem_of_getElem? (i := 194) (by decide +kernel)), by decide, by decide, by decide +kernel⟩, ⟨qU8, 36, rfl⟩, (List.mem_of_getElem? (i := 316) (by decide +kernel)), (List.mem_of_getElem? (i := 317) (by decide +kernel)), Or.inl (List.mem_of_getElem? (i := 318) (by decide +kernel))⟩
theorem cv_XModel_136 : qCv "FlushProofsModel" 136 8 Y_XModel_isElement 1 := ⟨⟨(List.mem_of_getElem? (i := 121) rfl), (List.mem_of_getElem? (i := 194) (by decide +kernel)), by decide, by decide, by decide +kernel⟩, ⟨qU8, 36, rfl⟩, (List.mem_of_getElem? (i := 319) (by decide +kernel)), (List.mem_of_getElem? (i := 320) (by decide +kernel)), Or.inl (List.mem_of_getElem? (i := 321) (by decide +kernel))⟩
theorem cv_XModel_139 : qCv "FlushProofsModel" 139 8 Y_XModel_isOfSort 2 := ⟨⟨(List.mem_of_getElem? (i := 122) rfl), (List.mem_of_getElem? (i := 194) (by decide +kernel)), by decide, by decide, by decide +kernel⟩, ⟨qU8, 36, rfl⟩, (List.mem_of_getElem? (i := 322) (by decide +kernel)), (List.mem_of_getElem? (i := 323) (by decide +kernel)), Or.inl (List.mem_of_getElem? (i := 324) (by decide +kernel))⟩
theorem cv_XModel_143 : qCv "FlushProofsModel" 143 8 Y_XModel_mark 1 := ⟨⟨(List.mem_of_getElem? (i := 125) rfl), (List.mem_of_getElem? (i := 194) (by decide +kernel)), by decide, by decide, by decide +kernel⟩, ⟨qU8, 36, rfl⟩, (List.mem_of_getElem? (i := 325) (by decide +kernel)), (List.mem_of_getElem? (i := 326) (by decide +kernel)), Or.inl (List.mem_of_getElem? (i := 327) (by decide +kernel))⟩
theorem cv_XModel_146 : qCv "FlushProofsModel" 146 8 Y_XModel_unmark 0 := ⟨⟨(List.mem_of_getElem? (i := 124) rfl), (List.mem_of_getElem? (i := 194) (by decide +kernel)), by decide, by decide, by decide +kernel⟩, ⟨qU8, 36, rfl⟩, (List.mem_of_getElem? (i := 328) (by decide +kernel)), (List.mem_of_getElem? (i := 329) (by decide +kernel)), Or.inl (List.mem_of_getElem? (i := 330) (by decide +kernel))⟩
theorem cv_XModel_149 : qCv "FlushProofsModel" 149 8 Y_XModel_markParts 0 := ⟨⟨(List.mem_of_getElem? (i := 126) rfl), (List.mem_of_getElem? (i := 194) (by decide +kernel)), by decide, by decide, by decide +kernel⟩, ⟨qU8, 36, rfl⟩, (List.mem_of_getElem? (i := 331) (by decide +kernel)), (List.mem_of_getElem? (i := 332) (by decide +kernel)), Or.inl (List.mem_of_getElem? (i := 333) (by decide +kernel))⟩
theorem cv_XModel_152 : qCv "FlushProofsModel" 152 8 Y_XModel_hasFetch 1 := ⟨⟨(List.mem_of_getElem? (i := 127) rfl), (List.mem_of_getElem? (i := 194) (by decide +kernel)), by decide, by decide, by decide +kernel⟩, ⟨qU8, 36, rfl⟩, (List.mem_of_getElem? (i := 334) (by decide +kernel)), (List.mem_of_getElem? (i := 335) (by decide +kernel)), Or.inl (List.mem_of_getElem? (i := 336) (by decide +kernel))⟩
theorem cv_XModel_158 : qCv "FlushProofsModel" 158 8 Y_XModel_make 4 := ⟨⟨(List.mem_of_getElem? (i := 132) rfl), (List.mem_of_getElem? (i := 194) (by decide +kernel)), by decide, by decide, by decide +kernel⟩, ⟨qU8, 36, rfl⟩, (List.mem_of_getElem? (i := 337) (by decide +kernel)), (List.mem_of_getElem? (i := 338) (by decide +kernel)), Or.inl (List.mem_of_getElem? (i := 339) (by decide +kernel))⟩
theorem cv_XModel_161 : qCv "FlushProofsModel" 161 8 Y_XModel_putIn 1 := ⟨⟨(List.mem_of_getElem? (i := 133) rfl), (List.mem_of_getElem? (i := 194) (by decide +kernel)), by decide, by decide, by decide +kernel⟩, ⟨qU8, 36, rfl⟩, (List.mem_of_getElem? (i := 340) (by decide +kernel)), (List.mem_of_getElem? (i := 341) (by decide +kernel)), Or.inl (List.mem_of_getElem? (i := 342) (by decide +kernel))⟩
theorem cv_XModel_179 : qCv "FlushProofsModel" 179 8 Y_XModel_work 0 := ⟨⟨(List.mem_of_getElem? (i := 136) rfl), (List.mem_of_getElem? (i := 194) (by decide +kernel)), by decide, by decide, by decide +kernel⟩, ⟨qU8, 36, rfl⟩, (List.mem_of_getElem? (i := 343) (by decide +kernel)), (List.mem_of_getElem? (i := 344) (by decide +kernel)), Or.inl (List.mem_of_getElem? (i := 345) (by decide +kernel))⟩
theorem cv_XModel_182 : qCv "FlushProofsModel" 182 8 Y_XModel_areFunctions 0 := ⟨⟨(List.mem_of_getElem? (i := 137) rfl), (List.mem_of_getElem? (i := 194) (by decide +kernel)), by decide, by decide, by decide +kernel⟩, ⟨qU8, 36, rfl⟩, (List.mem_of_getElem? (i := 346) (by decide +kernel)), (List.mem_of_getElem? (i := 347) (by decide +kernel)), Or.inl (List.mem_of_getElem? (i := 348) (by decide +kernel))⟩
theorem cv_XModel_186 : qCv "FlushProofsModel" 186 8 Y_XModel_failing 1 := ⟨⟨(List.mem_of_getElem? (i := 138) rfl), (List.mem_of_getElem? (i := 194) (by decide +kernel)), by decide, by decide, by decide +kernel⟩, ⟨qU8, 36, rfl⟩, (List.mem_of_getElem? (i := 349) (by decide +kernel)), (List.mem_of_getElem? (i := 350) (by decide +kernel)), Or.inl (List.mem_of_getElem? (i := 351) (by decide +kernel))⟩
theorem cv_XModel_189 : qCv "FlushProofsModel" 189 8 Y_XModel_goesOn 2 := ⟨⟨(List.mem_of_getElem? (i := 139) rfl), (List.mem_of_getElem? (i := 194) (by decide +kernel)), by decide, by decide, by decide +kernel⟩, ⟨qU8, 36, rfl⟩, (List.mem_of_getElem? (i := 352) (by decide +kernel)), (List.mem_of_getElem? (i := 353) (by decide +kernel)), Or.inl (List.mem_of_getElem? (i := 354) (by decide +kernel))⟩
theorem cv_XModel_205 : qCv "FlushProofsModel" 205 8 Y_XModel_gather 0 := ⟨⟨(List.mem_of_getElem? (i := 135) rfl), (List.mem_of_getElem? (i := 194) (by decide +kernel)), by decide, by decide, by decide +kernel⟩, ⟨qU8, 36, rfl⟩, (List.mem_of_getElem? (i := 355) (by decide +kernel)), (List.mem_of_getElem? (i := 356) (by decide +kernel)), Or.inl (List.mem_of_getElem? (i := 357) (by decide +kernel))⟩
theorem cv_XModel_208 : qCv "FlushProofsModel" 208 8 Y_XModel_failsWith 1 := ⟨⟨(List.mem_of_getElem? (i := 140) rfl), (List.mem_of_getElem? (i := 194) (by decide +kernel)), by decide, by decide, by decide +kernel⟩, ⟨qU8, 36, rfl⟩, (List.mem_of_getElem? (i := 358) (by decide +kernel)), (List.mem_of_getElem? (i := 359) (by decide +kernel)), Or.inl (List.mem_of_getElem? (i := 360) (by decide +kernel))⟩
theorem cv_XModel_211 : qCv "FlushProofsModel" 211 8 Y_XModel_keepState 1 := ⟨⟨(List.mem_of_getElem? (i := 141) rfl), (List.mem_of_getElem? (i := 194) (by decide +kernel)), by decide, by decide, by decide +kernel⟩, ⟨qU8, 36, rfl⟩, (List.mem_of_getElem? (i := 361) (by decide +kernel)), (List.mem_of_getElem? (i := 362) (by decide +kernel)), Or.inl (List.mem_of_getElem? (i := 363) (by decide +kernel))⟩
theorem cv_XModel_214 : qCv "FlushProofsModel" 214 8 Y_XModel_beginState 0 := ⟨⟨(List.mem_of_getElem? (i := 130) rfl), (List.mem_of_getElem? (i := 194) (by decide +kernel)), by decide, by decide, by decide +kernel⟩, ⟨qU8, 36, rfl⟩, (List.mem_of_getElem? (i := 364) (by decide +kernel)), (List.mem_of_getElem? (i := 365) (by decide +kernel)), Or.inl (List.mem_of_getElem? (i := 366) (by decide +kernel))⟩
theorem cv_XModel_217 : qCv "FlushProofsModel" 217 8 Y_XModel_step 1 := ⟨⟨(List.mem_of_getElem? (i := 134) rfl), (List.mem_of_getElem? (i := 194) (by decide +kernel)), by decide, by decide, by decide +kernel⟩, ⟨qU8, 36, rfl⟩, (List.mem_of_getElem? (i := 367) (by decide +kernel)), (List.mem_of_getElem? (i := 368) (by decide +kernel)), Or.inl (List.mem_of_getElem? (i := 369) (by decide +kernel))⟩
theorem cv_XModel_220 : qCv "FlushProofsModel" 220 8 Y_XModel_ask 1 := ⟨⟨(List.mem_of_getElem? (i := 142) rfl), (List.mem_of_getElem? (i := 194) (by decide +kernel)), by decide, by decide, by decide +kernel⟩, ⟨qU8, 36, rfl⟩, (List.mem_of_getElem? (i := 370) (by decide +kernel)), (List.mem_of_getElem? (i := 371) (by decide +kernel)), Or.inl (List.mem_of_getElem? (i := 372) (by decide +kernel))⟩
theorem cv_XModel_84 : qCv "FlushProofsModel" 84 8 Y_XModel_begin 0 := ⟨⟨(List.mem_of_getElem? (i := 102) rfl), (List.mem_of_getElem? (i := 194) (by decide +kernel)), by decide, by decide, by decide +kernel⟩, ⟨qU8, 36, rfl⟩, (List.mem_of_getElem? (i := 373) (by decide +kernel)), (List.mem_of_getElem? (i := 374) (by decide +kernel)), Or.inl (List.mem_of_getElem? (i := 375) (by decide +kernel))⟩
theorem cv_XModel_95 : qCv "FlushProofsModel" 95 8 Y_XModel_link 1 := ⟨⟨(List.mem_of_getElem? (i := 101) rfl), (List.mem_of_getElem? (i := 194) (by decide +kernel)), by decide, by decide, by decide +kernel⟩, ⟨qU8, 36, rfl⟩, (List.mem_of_getElem? (i := 376) (by decide +kernel)), (List.mem_of_getElem? (i := 377) (by decide +kernel)), Or.inl (List.mem_of_getElem? (i := 378) (by decide +kernel))⟩
theorem cv_XModel_99 : qCv "FlushProofsModel" 99 8 Y_XModel_find 4 := ⟨⟨(List.mem_of_getElem? (i := 114) rfl), (List.mem_of_getElem? (i := 194) (by decide +kernel)), by decide, by decide, by decide +kernel⟩, ⟨qU8, 36, rfl⟩, (List.mem_of_getElem? (i := 379) (by decide +kernel)), (List.mem_of_getElem? (i := 380) (by decide +kernel)), Or.inl (List.mem_of_getElem? (i := 381) (by decide +kernel))⟩
theorem cv_XNodes_47 : qCv "FlushProofs$Nodes" 47 2 Y_XNodes_put 4 := ⟨⟨(List.mem_of_getElem? (i := 4) rfl), (List.mem_of_getElem? (i := 187) (by decide +kernel)), by decide, by decide, by decide +kernel⟩, ⟨qU2, 9, rfl⟩, (List.mem_of_getElem? (i := 382) (by decide +kernel)), (List.mem_of_getElem? (i := 383) (by decide +kernel)), Or.inl (List.mem_of_getElem? (i := 384) (by decide +kernel))⟩
theorem cv_XNodes_60 : qCv "FlushProofs$Nodes" 60 2 Y_XNodes_has 1 := ⟨⟨(List.mem_of_getElem? (i := 13) rfl), (List.mem_of_getElem? (i := 187) (by decide +kernel)), by decide, by decide, by decide +kernel⟩, ⟨qU2, 9, rfl⟩, (List.mem_of_getElem? (i := 385) (by decide +kernel)), (List.mem_of_getElem? (i := 386) (by decide +kernel)), Or.inl (List.mem_of_getElem? (i := 387) (by decide +kernel))⟩
theorem cv_XNodes_64 : qCv "FlushProofs$Nodes" 64 2 Y_XNodes_isWord 1 := ⟨⟨(List.mem_of_getElem? (i := 2) rfl), (List.mem_of_getElem? (i := 187) (by decide +kernel)), by decide, by decide, by decide +kernel⟩, ⟨qU2, 9, rfl⟩, (List.mem_of_getElem? (i := 388) (by decide +kernel)), (List.mem_of_getElem? (i := 389) (by decide +kernel)), Or.inl (List.mem_of_getElem? (i := 390) (by decide +kernel))⟩
theorem cv_XNodes_67 : qCv "FlushProofs$Nodes" 67 2 Y_XNodes_makeEquality 2 := ⟨⟨(List.mem_of_getElem? (i := 15) rfl), (List.mem_of_getElem? (i := 187) (by decide +kernel)), by decide, by decide, by decide +kernel⟩, ⟨qU2, 9, rfl⟩, (List.mem_of_getElem? (i := 391) (by decide +kernel)), (List.mem_of_getElem? (i := 392) (by decide +kernel)), Or.inl (List.mem_of_getElem? (i := 393) (by decide +kernel))⟩
theorem cv_XNodes_70 : qCv "FlushProofs$Nodes" 70 2 Y_XNodes_makeNot 1 := ⟨⟨(List.mem_of_getElem? (i := 16) rfl), (List.mem_of_getElem? (i := 187) (by decide +kernel)), by decide, by decide, by decide +kernel⟩, ⟨qU2, 9, rfl⟩, (List.mem_of_getElem? (i := 394) (by decide +kernel)), (List.mem_of_getElem? (i := 395) (by decide +kernel)), Or.inl (List.mem_of_getElem? (i := 396) (by decide +kernel))⟩
theorem cv_XNodes_74 : qCv "FlushProofs$Nodes" 74 2 Y_XNodes_makeChoice 3 := ⟨⟨(List.mem_of_getElem? (i := 18) rfl), (List.mem_of_getElem? (i := 187) (by decide +kernel)), by decide, by decide, by decide +kernel⟩, ⟨qU2, 9, rfl⟩, (List.mem_of_getElem? (i := 397) (by decide +kernel)), (List.mem_of_getElem? (i := 398) (by decide +kernel)), Or.inl (List.mem_of_getElem? (i := 399) (by decide +kernel))⟩
theorem cv_XNodes_82 : qCv "FlushProofs$Nodes" 82 2 Y_XNodes_makeApplication 3 := ⟨⟨(List.mem_of_getElem? (i := 14) rfl), (List.mem_of_getElem? (i := 187) (by decide +kernel)), by decide, by decide, by decide +kernel⟩, ⟨qU2, 9, rfl⟩, (List.mem_of_getElem? (i := 400) (by decide +kernel)), (List.mem_of_getElem? (i := 401) (by decide +kernel)), Or.inl (List.mem_of_getElem? (i := 402) (by decide +kernel))⟩
theorem cv_XNodes_85 : qCv "FlushProofs$Nodes" 85 2 Y_XNodes_makeBoth 2 := ⟨⟨(List.mem_of_getElem? (i := 17) rfl), (List.mem_of_getElem? (i := 187) (by decide +kernel)), by decide, by decide, by decide +kernel⟩, ⟨qU2, 9, rfl⟩, (List.mem_of_getElem? (i := 403) (by decide +kernel)), (List.mem_of_getElem? (i := 404) (by decide +kernel)), Or.inl (List.mem_of_getElem? (i := 405) (by decide +kernel))⟩
theorem cv_XNodes_88 : qCv "FlushProofs$Nodes" 88 2 Y_XNodes_mark 2 := ⟨⟨(List.mem_of_getElem? (i := 22) rfl), (List.mem_of_getElem? (i := 187) (by decide +kernel)), by decide, by decide, by decide +kernel⟩, ⟨qU2, 9, rfl⟩, (List.mem_of_getElem? (i := 406) (by decide +kernel)), (List.mem_of_getElem? (i := 407) (by decide +kernel)), Or.inl (List.mem_of_getElem? (i := 408) (by decide +kernel))⟩
theorem cv_XNodes_92 : qCv "FlushProofs$Nodes" 92 2 Y_XNodes_hasFetch 1 := ⟨⟨(List.mem_of_getElem? (i := 3) rfl), (List.mem_of_getElem? (i := 187) (by decide +kernel)), by decide, by decide, by decide +kernel⟩, ⟨qU2, 9, rfl⟩, (List.mem_of_getElem? (i := 409) (by decide +kernel)), (List.mem_of_getElem? (i := 410) (by decide +kernel)), Or.inl (List.mem_of_getElem? (i := 411) (by decide +kernel))⟩
theorem cv_XPlanes_15 : qCv "FlushProofs$Planes" 15 2 Y_XNodes_room 0 := ⟨⟨(List.mem_of_getElem? (i := 12) rfl), (List.mem_of_getElem? (i := 187) (by decide +kernel)), by decide, by decide, by decide +kernel⟩, ⟨qU2, 9, rfl⟩, (List.mem_of_getElem? (i := 412) (by decide +kernel)), (List.mem_of_getElem? (i := 413) (by decide +kernel)), Or.inl (List.mem_of_getElem? (i := 414) (by decide +kernel))⟩
theorem cv_XPlanes_43 : qCv "FlushProofs$Planes" 43 4 Y_XPlanes_same 2 := ⟨⟨(List.mem_of_getElem? (i := 31) rfl), (List.mem_of_getElem? (i := 415) (by decide +kernel)), by decide, by decide, by decide +kernel⟩, ⟨qU4, 4, rfl⟩, (List.mem_of_getElem? (i := 416) (by decide +kernel)), (List.mem_of_getElem? (i := 417) (by decide +kernel)), Or.inl (List.mem_of_getElem? (i := 418) (by decide +kernel))⟩
theorem cv_XPlanes_50 : qCv "FlushProofs$Planes" 50 4 Y_XPlanes_choose 4 := ⟨⟨(List.mem_of_getElem? (i := 32) rfl), (List.mem_of_getElem? (i := 415) (by decide +kernel)), by decide, by decide, by decide +kernel⟩, ⟨qU4, 4, rfl⟩, (List.mem_of_getElem? (i := 419) (by decide +kernel)), (List.mem_of_getElem? (i := 420) (by decide +kernel)), Or.inl (List.mem_of_getElem? (i := 421) (by decide +kernel))⟩
theorem cv_XProver_104 : qCv "FlushProofs$Prover" 104 2 Y_XNodes_remakeAll 2 := ⟨⟨(List.mem_of_getElem? (i := 21) rfl), (List.mem_of_getElem? (i := 187) (by decide +kernel)), by decide, by decide, by decide +kernel⟩, ⟨qU2, 9, rfl⟩, (List.mem_of_getElem? (i := 422) (by decide +kernel)), (List.mem_of_getElem? (i := 423) (by decide +kernel)), Or.inl (List.mem_of_getElem? (i := 424) (by decide +kernel))⟩
theorem cv_XProver_111 : qCv "FlushProofs$Prover" 111 2 Y_XNodes_makeNot 1 := ⟨⟨(List.mem_of_getElem? (i := 16) rfl), (List.mem_of_getElem? (i := 187) (by decide +kernel)), by decide, by decide, by decide +kernel⟩, ⟨qU2, 9, rfl⟩, (List.mem_of_getElem? (i := 394) (by decide +kernel)), (List.mem_of_getElem? (i := 395) (by decide +kernel)), Or.inl (List.mem_of_getElem? (i := 425) (by decide +kernel))⟩
theorem cv_XProver_115 : qCv "FlushProofs$Prover" 115 2 Y_XNodes_reset 0 := ⟨⟨(List.mem_of_getElem? (i := 5) rfl), (List.mem_of_getElem? (i := 187) (by decide +kernel)), by decide, by decide, by decide +kernel⟩, ⟨qU2, 9, rfl⟩, (List.mem_of_getElem? (i := 188) (by decide +kernel)), (List.mem_of_getElem? (i := 189) (by decide +kernel)), Or.inl (List.mem_of_getElem? (i := 426) (by decide +kernel))⟩
theorem cv_XProver_118 : qCv "FlushProofs$Prover" 118 6 Y_XQuestion_begin 0 := ⟨⟨(List.mem_of_getElem? (i := 38) rfl), (List.mem_of_getElem? (i := 427) (by decide +kernel)), by decide, by decide, by decide +kernel⟩, ⟨qU6, 5, rfl⟩, (List.mem_of_getElem? (i := 428) (by decide +kernel)), (List.mem_of_getElem? (i := 429) (by decide +kernel)), Or.inl (List.mem_of_getElem? (i := 430) (by decide +kernel))⟩
theorem cv_XProver_123 : qCv "FlushProofs$Prover" 123 2 Y_XNodes_isWord 1 := ⟨⟨(List.mem_of_getElem? (i := 2) rfl), (List.mem_of_getElem? (i := 187) (by decide +kernel)), by decide, by decide, by decide +kernel⟩, ⟨qU2, 9, rfl⟩, (List.mem_of_getElem? (i := 388) (by decide +kernel)), (List.mem_of_getElem? (i := 389) (by decide +kernel)), Or.inl (List.mem_of_getElem? (i := 431) (by decide +kernel))⟩
theorem cv_XProver_127 : qCv "FlushProofs$Prover" 127 2 Y_XNodes_makeElement 2 := ⟨⟨(List.mem_of_getElem? (i := 7) rfl), (List.mem_of_getElem? (i := 187) (by decide +kernel)), by decide, by decide, by decide +kernel⟩, ⟨qU2, 9, rfl⟩, (List.mem_of_getElem? (i := 191) (by decide +kernel)), (List.mem_of_getElem? (i := 192) (by decide +kernel)), Or.inl (List.mem_of_getElem? (i := 432) (by decide +kernel))⟩
theorem cv_XProver_133 : qCv "FlushProofs$Prover" 133 6 Y_XQuestion_addInvariant 1 := ⟨⟨(List.mem_of_getElem? (i := 40) rfl), (List.mem_of_getElem? (i := 427) (by decide +kernel)), by decide, by decide, by decide +kernel⟩, ⟨qU6, 5, rfl⟩, (List.mem_of_getElem? (i := 433) (by decide +kernel)), (List.mem_of_getElem? (i := 434) (by decide +kernel)), Or.inl (List.mem_of_getElem? (i := 435) (by decide +kernel))⟩
theorem cv_XProver_139 : qCv "FlushProofs$Prover" 139 5 Y_XProver_takeImages 3 := ⟨⟨(List.mem_of_getElem? (i := 42) rfl), (List.mem_of_getElem? (i := 436) (by decide +kernel)), by decide, by decide, by decide +kernel⟩, ⟨qU5, 7, rfl⟩, (List.mem_of_getElem? (i := 437) (by decide +kernel)), (List.mem_of_getElem? (i := 438) (by decide +kernel)), Or.inl (List.mem_of_getElem? (i := 439) (by decide +kernel))⟩
theorem cv_XProver_148 : qCv "FlushProofs$Prover" 148 2 Y_XNodes_spread 1 := ⟨⟨(List.mem_of_getElem? (i := 23) rfl), (List.mem_of_getElem? (i := 187) (by decide +kernel)), by decide, by decide, by decide +kernel⟩, ⟨qU2, 9, rfl⟩, (List.mem_of_getElem? (i := 440) (by decide +kernel)), (List.mem_of_getElem? (i := 441) (by decide +kernel)), Or.inl (List.mem_of_getElem? (i := 442) (by decide +kernel))⟩
theorem cv_XProver_161 : qCv "FlushProofs$Prover" 161 3 Y_XOutcome_isTooLarge 0 := ⟨⟨(List.mem_of_getElem? (i := 26) rfl), (List.mem_of_getElem? (i := 443) (by decide +kernel)), by decide, by decide, by decide +kernel⟩, ⟨qU3, 7, rfl⟩, (List.mem_of_getElem? (i := 444) (by decide +kernel)), (List.mem_of_getElem? (i := 445) (by decide +kernel)), Or.inl (List.mem_of_getElem? (i := 446) (by decide +kernel))⟩
theorem cv_XProver_171 : qCv "FlushProofs$Prover" 171 5 Y_XProver_markNeeded 0 := ⟨⟨(List.mem_of_getElem? (i := 50) rfl), (List.mem_of_getElem? (i := 436) (by decide +kernel)), by decide, by decide, by decide +kernel⟩, ⟨qU5, 7, rfl⟩, (List.mem_of_getElem? (i := 447) (by decide +kernel)), (List.mem_of_getElem? (i := 448) (by decide +kernel)), Or.inl (List.mem_of_getElem? (i := 449) (by decide +kernel))⟩
theorem cv_XProver_174 : qCv "FlushProofs$Prover" 174 7 Y_XSearch_findLeast 1 := ⟨⟨(List.mem_of_getElem? (i := 70) rfl), (List.mem_of_getElem? (i := 450) (by decide +kernel)), by decide, by decide, by decide +kernel⟩, ⟨qU7, 15, rfl⟩, (List.mem_of_getElem? (i := 451) (by decide +kernel)), (List.mem_of_getElem? (i := 452) (by decide +kernel)), Or.inl (List.mem_of_getElem? (i := 453) (by decide +kernel))⟩
theorem cv_XProver_178 : qCv "FlushProofs$Prover" 178 7 Y_XSearch_tell 1 := ⟨⟨(List.mem_of_getElem? (i := 71) rfl), (List.mem_of_getElem? (i := 450) (by decide +kernel)), by decide, by decide, by decide +kernel⟩, ⟨qU7, 15, rfl⟩, (List.mem_of_getElem? (i := 454) (by decide +kernel)), (List.mem_of_getElem? (i := 455) (by decide +kernel)), Or.inl (List.mem_of_getElem? (i := 456) (by decide +kernel))⟩
theorem cv_XProver_50 : qCv "FlushProofs$Prover" 50 2 Y_XNodes_room 0 := ⟨⟨(List.mem_of_getElem? (i := 12) rfl), (List.mem_of_getElem? (i := 187) (by decide +kernel)), by decide, by decide, by decide +kernel⟩, ⟨qU2, 9, rfl⟩, (List.mem_of_getElem? (i := 412) (by decide +kernel)), (List.mem_of_getElem? (i := 413) (by decide +kernel)), Or.inl (List.mem_of_getElem? (i := 457) (by decide +kernel))⟩
theorem cv_XProver_60 : qCv "FlushProofs$Prover" 60 3 Y_XOutcome_begin 2 := ⟨⟨(List.mem_of_getElem? (i := 25) rfl), (List.mem_of_getElem? (i := 443) (by decide +kernel)), by decide, by decide, by decide +kernel⟩, ⟨qU3, 7, rfl⟩, (List.mem_of_getElem? (i := 458) (by decide +kernel)), (List.mem_of_getElem? (i := 459) (by decide +kernel)), Or.inl (List.mem_of_getElem? (i := 460) (by decide +kernel))⟩
theorem cv_XProver_66 : qCv "FlushProofs$Prover" 66 5 Y_XProver_begin 1 := ⟨⟨(List.mem_of_getElem? (i := 41) rfl), (List.mem_of_getElem? (i := 436) (by decide +kernel)), by decide, by decide, by decide +kernel⟩, ⟨qU5, 7, rfl⟩, (List.mem_of_getElem? (i := 461) (by decide +kernel)), (List.mem_of_getElem? (i := 462) (by decide +kernel)), Or.inl (List.mem_of_getElem? (i := 463) (by decide +kernel))⟩
theorem cv_XProver_69 : qCv "FlushProofs$Prover" 69 5 Y_XProver_step 3 := ⟨⟨(List.mem_of_getElem? (i := 43) rfl), (List.mem_of_getElem? (i := 436) (by decide +kernel)), by decide, by decide, by decide +kernel⟩, ⟨qU5, 7, rfl⟩, (List.mem_of_getElem? (i := 464) (by decide +kernel)), (List.mem_of_getElem? (i := 465) (by decide +kernel)), Or.inl (List.mem_of_getElem? (i := 466) (by decide +kernel))⟩
theorem cv_XProver_73 : qCv "FlushProofs$Prover" 73 5 Y_XProver_plainStep 2 := ⟨⟨(List.mem_of_getElem? (i := 44) rfl), (List.mem_of_getElem? (i := 436) (by decide +kernel)), by decide, by decide, by decide +kernel⟩, ⟨qU5, 7, rfl⟩, (List.mem_of_getElem? (i := 467) (by decide +kernel)), (List.mem_of_getElem? (i := 468) (by decide +kernel)), Or.inl (List.mem_of_getElem? (i := 469) (by decide +kernel))⟩
theorem cv_XProver_77 : qCv "FlushProofs$Prover" 77 5 Y_XProver_markInvariants 0 := ⟨⟨(List.mem_of_getElem? (i := 45) rfl), (List.mem_of_getElem? (i := 436) (by decide +kernel)), by decide, by decide, by decide +kernel⟩, ⟨qU5, 7, rfl⟩, (List.mem_of_getElem? (i := 470) (by decide +kernel)), (List.mem_of_getElem? (i := 471) (by decide +kernel)), Or.inl (List.mem_of_getElem? (i := 472) (by decide +kernel))⟩
theorem cv_XProver_83 : qCv "FlushProofs$Prover" 83 2 Y_XNodes_mark 2 := ⟨⟨(List.mem_of_getElem? (i := 22) rfl), (List.mem_of_getElem? (i := 187) (by decide +kernel)), by decide, by decide, by decide +kernel⟩, ⟨qU2, 9, rfl⟩, (List.mem_of_getElem? (i := 406) (by decide +kernel)), (List.mem_of_getElem? (i := 407) (by decide +kernel)), Or.inl (List.mem_of_getElem? (i := 473) (by decide +kernel))⟩
theorem cv_XProver_87 : qCv "FlushProofs$Prover" 87 5 Y_XProver_countDeep 1 := ⟨⟨(List.mem_of_getElem? (i := 46) rfl), (List.mem_of_getElem? (i := 436) (by decide +kernel)), by decide, by decide, by decide +kernel⟩, ⟨qU5, 7, rfl⟩, (List.mem_of_getElem? (i := 474) (by decide +kernel)), (List.mem_of_getElem? (i := 475) (by decide +kernel)), Or.inl (List.mem_of_getElem? (i := 476) (by decide +kernel))⟩
theorem cv_XProver_91 : qCv "FlushProofs$Prover" 91 2 Y_XNodes_makeDifference 2 := ⟨⟨(List.mem_of_getElem? (i := 19) rfl), (List.mem_of_getElem? (i := 187) (by decide +kernel)), by decide, by decide, by decide +kernel⟩, ⟨qU2, 9, rfl⟩, (List.mem_of_getElem? (i := 477) (by decide +kernel)), (List.mem_of_getElem? (i := 478) (by decide +kernel)), Or.inl (List.mem_of_getElem? (i := 479) (by decide +kernel))⟩
theorem cv_XProver_95 : qCv "FlushProofs$Prover" 95 6 Y_XQuestion_addClaim 2 := ⟨⟨(List.mem_of_getElem? (i := 47) rfl), (List.mem_of_getElem? (i := 427) (by decide +kernel)), by decide, by decide, by decide +kernel⟩, ⟨qU6, 5, rfl⟩, (List.mem_of_getElem? (i := 480) (by decide +kernel)), (List.mem_of_getElem? (i := 481) (by decide +kernel)), Or.inl (List.mem_of_getElem? (i := 482) (by decide +kernel))⟩
theorem cv_XProver_98 : qCv "FlushProofs$Prover" 98 5 Y_XProver_putIn 3 := ⟨⟨(List.mem_of_getElem? (i := 39) rfl), (List.mem_of_getElem? (i := 436) (by decide +kernel)), by decide, by decide, by decide +kernel⟩, ⟨qU5, 7, rfl⟩, (List.mem_of_getElem? (i := 483) (by decide +kernel)), (List.mem_of_getElem? (i := 484) (by decide +kernel)), Or.inl (List.mem_of_getElem? (i := 485) (by decide +kernel))⟩
theorem cv_XSearch_124 : qCv "FlushProofs$Search" 124 7 Y_XSearch_collectNode 2 := ⟨⟨(List.mem_of_getElem? (i := 53) rfl), (List.mem_of_getElem? (i := 450) (by decide +kernel)), by decide, by decide, by decide +kernel⟩, ⟨qU7, 15, rfl⟩, (List.mem_of_getElem? (i := 486) (by decide +kernel)), (List.mem_of_getElem? (i := 487) (by decide +kernel)), Or.inl (List.mem_of_getElem? (i := 488) (by decide +kernel))⟩
theorem cv_XSearch_128 : qCv "FlushProofs$Search" 128 7 Y_XSearch_addTruth 1 := ⟨⟨(List.mem_of_getElem? (i := 51) rfl), (List.mem_of_getElem? (i := 450) (by decide +kernel)), by decide, by decide, by decide +kernel⟩, ⟨qU7, 15, rfl⟩, (List.mem_of_getElem? (i := 489) (by decide +kernel)), (List.mem_of_getElem? (i := 490) (by decide +kernel)), Or.inl (List.mem_of_getElem? (i := 491) (by decide +kernel))⟩
theorem cv_XSearch_131 : qCv "FlushProofs$Search" 131 7 Y_XSearch_addWord 1 := ⟨⟨(List.mem_of_getElem? (i := 52) rfl), (List.mem_of_getElem? (i := 450) (by decide +kernel)), by decide, by decide, by decide +kernel⟩, ⟨qU7, 15, rfl⟩, (List.mem_of_getElem? (i := 492) (by decide +kernel)), (List.mem_of_getElem? (i := 493) (by decide +kernel)), Or.inl (List.mem_of_getElem? (i := 494) (by decide +kernel))⟩
theorem cv_XSearch_134 : qCv "FlushProofs$Search" 134 7 Y_XSearch_levelOfParts 1 := ⟨⟨(List.mem_of_getElem? (i := 56) rfl), (List.mem_of_getElem? (i := 450) (by decide +kernel)), by decide, by decide, by decide +kernel⟩, ⟨qU7, 15, rfl⟩, (List.mem_of_getElem? (i := 495) (by decide +kernel)), (List.mem_of_getElem? (i := 496) (by decide +kernel)), Or.inl (List.mem_of_getElem? (i := 497) (by decide +kernel))⟩
theorem cv_XSearch_138 : qCv "FlushProofs$Search" 138 7 Y_XSearch_levelOf 1 := ⟨⟨(List.mem_of_getElem? (i := 55) rfl), (List.mem_of_getElem? (i := 450) (by decide +kernel)), by decide, by decide, by decide +kernel⟩, ⟨qU7, 15, rfl⟩, (List.mem_of_getElem? (i := 498) (by decide +kernel)), (List.mem_of_getElem? (i := 499) (by decide +kernel)), Or.inl (List.mem_of_getElem? (i := 500) (by decide +kernel))⟩
theorem cv_XSearch_159 : qCv "FlushProofs$Search" 159 4 Y_XPlanes_setTruth 2 := ⟨⟨(List.mem_of_getElem? (i := 29) rfl), (List.mem_of_getElem? (i := 415) (by decide +kernel)), by decide, by decide, by decide +kernel⟩, ⟨qU4, 4, rfl⟩, (List.mem_of_getElem? (i := 501) (by decide +kernel)), (List.mem_of_getElem? (i := 502) (by decide +kernel)), Or.inl (List.mem_of_getElem? (i := 503) (by decide +kernel))⟩
theorem cv_XSearch_169 : qCv "FlushProofs$Search" 169 4 Y_XPlanes_reckon 1 := ⟨⟨(List.mem_of_getElem? (i := 33) rfl), (List.mem_of_getElem? (i := 415) (by decide +kernel)), by decide, by decide, by decide +kernel⟩, ⟨qU4, 4, rfl⟩, (List.mem_of_getElem? (i := 504) (by decide +kernel)), (List.mem_of_getElem? (i := 505) (by decide +kernel)), Or.inl (List.mem_of_getElem? (i := 506) (by decide +kernel))⟩
theorem cv_XSearch_178 : qCv "FlushProofs$Search" 178 4 Y_XPlanes_truthOf 1 := ⟨⟨(List.mem_of_getElem? (i := 28) rfl), (List.mem_of_getElem? (i := 415) (by decide +kernel)), by decide, by decide, by decide +kernel⟩, ⟨qU4, 4, rfl⟩, (List.mem_of_getElem? (i := 507) (by decide +kernel)), (List.mem_of_getElem? (i := 508) (by decide +kernel)), Or.inl (List.mem_of_getElem? (i := 509) (by decide +kernel))⟩
theorem cv_XSearch_181 : qCv "FlushProofs$Search" 181 7 Y_XSearch_look 1 := ⟨⟨(List.mem_of_getElem? (i := 65) rfl), (List.mem_of_getElem? (i := 450) (by decide +kernel)), by decide, by decide, by decide +kernel⟩, ⟨qU7, 15, rfl⟩, (List.mem_of_getElem? (i := 510) (by decide +kernel)), (List.mem_of_getElem? (i := 511) (by decide +kernel)), Or.inl (List.mem_of_getElem? (i := 512) (by decide +kernel))⟩
theorem cv_XSearch_185 : qCv "FlushProofs$Search" 185 7 Y_XSearch_statesOfUse 1 := ⟨⟨(List.mem_of_getElem? (i := 66) rfl), (List.mem_of_getElem? (i := 450) (by decide +kernel)), by decide, by decide, by decide +kernel⟩, ⟨qU7, 15, rfl⟩, (List.mem_of_getElem? (i := 513) (by decide +kernel)), (List.mem_of_getElem? (i := 514) (by decide +kernel)), Or.inl (List.mem_of_getElem? (i := 515) (by decide +kernel))⟩
theorem cv_XSearch_188 : qCv "FlushProofs$Search" 188 7 Y_XSearch_withFunctions 3 := ⟨⟨(List.mem_of_getElem? (i := 68) rfl), (List.mem_of_getElem? (i := 450) (by decide +kernel)), by decide, by decide, by decide +kernel⟩, ⟨qU7, 15, rfl⟩, (List.mem_of_getElem? (i := 516) (by decide +kernel)), (List.mem_of_getElem? (i := 517) (by decide +kernel)), Or.inl (List.mem_of_getElem? (i := 518) (by decide +kernel))⟩
theorem cv_XSearch_192 : qCv "FlushProofs$Search" 192 4 Y_XPlanes_setWord 2 := ⟨⟨(List.mem_of_getElem? (i := 30) rfl), (List.mem_of_getElem? (i := 415) (by decide +kernel)), by decide, by decide, by decide +kernel⟩, ⟨qU4, 4, rfl⟩, (List.mem_of_getElem? (i := 519) (by decide +kernel)), (List.mem_of_getElem? (i := 520) (by decide +kernel)), Or.inl (List.mem_of_getElem? (i := 521) (by decide +kernel))⟩
theorem cv_XSearch_195 : qCv "FlushProofs$Search" 195 7 Y_XSearch_sameArguments 2 := ⟨⟨(List.mem_of_getElem? (i := 67) rfl), (List.mem_of_getElem? (i := 450) (by decide +kernel)), by decide, by decide, by decide +kernel⟩, ⟨qU7, 15, rfl⟩, (List.mem_of_getElem? (i := 522) (by decide +kernel)), (List.mem_of_getElem? (i := 523) (by decide +kernel)), Or.inl (List.mem_of_getElem? (i := 524) (by decide +kernel))⟩
theorem cv_XSearch_199 : qCv "FlushProofs$Search" 199 4 Y_XPlanes_same 2 := ⟨⟨(List.mem_of_getElem? (i := 31) rfl), (List.mem_of_getElem? (i := 415) (by decide +kernel)), by decide, by decide, by decide +kernel⟩, ⟨qU4, 4, rfl⟩, (List.mem_of_getElem? (i := 416) (by decide +kernel)), (List.mem_of_getElem? (i := 417) (by decide +kernel)), Or.inl (List.mem_of_getElem? (i := 525) (by decide +kernel))⟩
theorem cv_XSearch_214 : qCv "FlushProofs$Search" 214 7 Y_XSearch_lowestClaim 1 := ⟨⟨(List.mem_of_getElem? (i := 64) rfl), (List.mem_of_getElem? (i := 450) (by decide +kernel)), by decide, by decide, by decide +kernel⟩, ⟨qU7, 15, rfl⟩, (List.mem_of_getElem? (i := 526) (by decide +kernel)), (List.mem_of_getElem? (i := 527) (by decide +kernel)), Or.inl (List.mem_of_getElem? (i := 528) (by decide +kernel))⟩
theorem cv_XSearch_38 : qCv "FlushProofs$Search" 38 2 Y_XNodes_room 0 := ⟨⟨(List.mem_of_getElem? (i := 12) rfl), (List.mem_of_getElem? (i := 187) (by decide +kernel)), by decide, by decide, by decide +kernel⟩, ⟨qU2, 9, rfl⟩, (List.mem_of_getElem? (i := 412) (by decide +kernel)), (List.mem_of_getElem? (i := 413) (by decide +kernel)), Or.inl (List.mem_of_getElem? (i := 529) (by decide +kernel))⟩
theorem cv_XSearch_63 : qCv "FlushProofs$Search" 63 7 Y_XSearch_collect 1 := ⟨⟨(List.mem_of_getElem? (i := 54) rfl), (List.mem_of_getElem? (i := 450) (by decide +kernel)), by decide, by decide, by decide +kernel⟩, ⟨qU7, 15, rfl⟩, (List.mem_of_getElem? (i := 530) (by decide +kernel)), (List.mem_of_getElem? (i := 531) (by decide +kernel)), Or.inl (List.mem_of_getElem? (i := 532) (by decide +kernel))⟩
theorem cv_XSearch_67 : qCv "FlushProofs$Search" 67 7 Y_XSearch_setLevels 1 := ⟨⟨(List.mem_of_getElem? (i := 57) rfl), (List.mem_of_getElem? (i := 450) (by decide +kernel)), by decide, by decide, by decide +kernel⟩, ⟨qU7, 15, rfl⟩, (List.mem_of_getElem? (i := 533) (by decide +kernel)), (List.mem_of_getElem? (i := 534) (by decide +kernel)), Or.inl (List.mem_of_getElem? (i := 535) (by decide +kernel))⟩
theorem cv_XSearch_70 : qCv "FlushProofs$Search" 70 7 Y_XSearch_arrange 1 := ⟨⟨(List.mem_of_getElem? (i := 58) rfl), (List.mem_of_getElem? (i := 450) (by decide +kernel)), by decide, by decide, by decide +kernel⟩, ⟨qU7, 15, rfl⟩, (List.mem_of_getElem? (i := 536) (by decide +kernel)), (List.mem_of_getElem? (i := 537) (by decide +kernel)), Or.inl (List.mem_of_getElem? (i := 538) (by decide +kernel))⟩
theorem cv_XSearch_73 : qCv "FlushProofs$Search" 73 7 Y_XSearch_setTruths 0 := ⟨⟨(List.mem_of_getElem? (i := 59) rfl), (List.mem_of_getElem? (i := 450) (by decide +kernel)), by decide, by decide, by decide +kernel⟩, ⟨qU7, 15, rfl⟩, (List.mem_of_getElem? (i := 539) (by decide +kernel)), (List.mem_of_getElem? (i := 540) (by decide +kernel)), Or.inl (List.mem_of_getElem? (i := 541) (by decide +kernel))⟩
theorem cv_XSearch_76 : qCv "FlushProofs$Search" 76 7 Y_XSearch_reckonLevel 1 := ⟨⟨(List.mem_of_getElem? (i := 60) rfl), (List.mem_of_getElem? (i := 450) (by decide +kernel)), by decide, by decide, by decide +kernel⟩, ⟨qU7, 15, rfl⟩, (List.mem_of_getElem? (i := 542) (by decide +kernel)), (List.mem_of_getElem? (i := 543) (by decide +kernel)), Or.inl (List.mem_of_getElem? (i := 544) (by decide +kernel))⟩
theorem cv_XSearch_87 : qCv "FlushProofs$Search" 87 7 Y_XSearch_withInvariants 2 := ⟨⟨(List.mem_of_getElem? (i := 62) rfl), (List.mem_of_getElem? (i := 450) (by decide +kernel)), by decide, by decide, by decide +kernel⟩, ⟨qU7, 15, rfl⟩, (List.mem_of_getElem? (i := 545) (by decide +kernel)), (List.mem_of_getElem? (i := 546) (by decide +kernel)), Or.inl (List.mem_of_getElem? (i := 547) (by decide +kernel))⟩
theorem cv_XSearch_91 : qCv "FlushProofs$Search" 91 7 Y_XSearch_giveNumbers 3 := ⟨⟨(List.mem_of_getElem? (i := 69) rfl), (List.mem_of_getElem? (i := 450) (by decide +kernel)), by decide, by decide, by decide +kernel⟩, ⟨qU7, 15, rfl⟩, (List.mem_of_getElem? (i := 548) (by decide +kernel)), (List.mem_of_getElem? (i := 549) (by decide +kernel)), Or.inl (List.mem_of_getElem? (i := 550) (by decide +kernel))⟩
theorem cv_X_111 : qCv "FlushProofs" 111 1 Y_XCore_addInvariant 1 := ⟨⟨(List.mem_of_getElem? (i := 11) rfl), (List.mem_of_getElem? (i := 551) (by decide +kernel)), by decide, by decide, by decide +kernel⟩, ⟨qU1, 8, rfl⟩, (List.mem_of_getElem? (i := 552) (by decide +kernel)), (List.mem_of_getElem? (i := 553) (by decide +kernel)), Or.inl (List.mem_of_getElem? (i := 554) (by decide +kernel))⟩
theorem cv_X_116 : qCv "FlushProofs" 116 0 Y_X_makeRoom 1 := ⟨⟨(List.mem_of_getElem? (i := 92) rfl), (List.mem_of_getElem? (i := 222) (by decide +kernel)), by decide, by decide, by decide +kernel⟩, ⟨qU0, 3, rfl⟩, (List.mem_of_getElem? (i := 555) (by decide +kernel)), (List.mem_of_getElem? (i := 556) (by decide +kernel)), Or.inl (List.mem_of_getElem? (i := 557) (by decide +kernel))⟩
theorem cv_X_119 : qCv "FlushProofs" 119 5 Y_XProver_askEquation 3 := ⟨⟨(List.mem_of_getElem? (i := 48) rfl), (List.mem_of_getElem? (i := 436) (by decide +kernel)), by decide, by decide, by decide +kernel⟩, ⟨qU5, 7, rfl⟩, (List.mem_of_getElem? (i := 558) (by decide +kernel)), (List.mem_of_getElem? (i := 559) (by decide +kernel)), Or.inl (List.mem_of_getElem? (i := 560) (by decide +kernel))⟩
theorem cv_X_123 : qCv "FlushProofs" 123 5 Y_XProver_decide 1 := ⟨⟨(List.mem_of_getElem? (i := 72) rfl), (List.mem_of_getElem? (i := 436) (by decide +kernel)), by decide, by decide, by decide +kernel⟩, ⟨qU5, 7, rfl⟩, (List.mem_of_getElem? (i := 561) (by decide +kernel)), (List.mem_of_getElem? (i := 562) (by decide +kernel)), Or.inl (List.mem_of_getElem? (i := 563) (by decide +kernel))⟩
theorem cv_X_135 : qCv "FlushProofs" 135 5 Y_XProver_askKept 3 := ⟨⟨(List.mem_of_getElem? (i := 49) rfl), (List.mem_of_getElem? (i := 436) (by decide +kernel)), by decide, by decide, by decide +kernel⟩, ⟨qU5, 7, rfl⟩, (List.mem_of_getElem? (i := 564) (by decide +kernel)), (List.mem_of_getElem? (i := 565) (by decide +kernel)), Or.inl (List.mem_of_getElem? (i := 566) (by decide +kernel))⟩
theorem cv_X_138 : qCv "FlushProofs" 138 0 Y_X_requireFailure 0 := ⟨⟨(List.mem_of_getElem? (i := 95) rfl), (List.mem_of_getElem? (i := 222) (by decide +kernel)), by decide, by decide, by decide +kernel⟩, ⟨qU0, 3, rfl⟩, (List.mem_of_getElem? (i := 567) (by decide +kernel)), (List.mem_of_getElem? (i := 568) (by decide +kernel)), Or.inl (List.mem_of_getElem? (i := 569) (by decide +kernel))⟩
theorem cv_X_187 : qCv "FlushProofs" 187 2 Y_XNodes_has 1 := ⟨⟨(List.mem_of_getElem? (i := 13) rfl), (List.mem_of_getElem? (i := 187) (by decide +kernel)), by decide, by decide, by decide +kernel⟩, ⟨qU2, 9, rfl⟩, (List.mem_of_getElem? (i := 385) (by decide +kernel)), (List.mem_of_getElem? (i := 386) (by decide +kernel)), Or.inl (List.mem_of_getElem? (i := 570) (by decide +kernel))⟩
theorem cv_X_195 : qCv "FlushProofs" 195 2 Y_XNodes_isWord 1 := ⟨⟨(List.mem_of_getElem? (i := 2) rfl), (List.mem_of_getElem? (i := 187) (by decide +kernel)), by decide, by decide, by decide +kernel⟩, ⟨qU2, 9, rfl⟩, (List.mem_of_getElem? (i := 388) (by decide +kernel)), (List.mem_of_getElem? (i := 389) (by decide +kernel)), Or.inl (List.mem_of_getElem? (i := 571) (by decide +kernel))⟩
theorem cv_X_204 : qCv "FlushProofs" 204 2 Y_XNodes_hasFetch 1 := ⟨⟨(List.mem_of_getElem? (i := 3) rfl), (List.mem_of_getElem? (i := 187) (by decide +kernel)), by decide, by decide, by decide +kernel⟩, ⟨qU2, 9, rfl⟩, (List.mem_of_getElem? (i := 409) (by decide +kernel)), (List.mem_of_getElem? (i := 410) (by decide +kernel)), Or.inl (List.mem_of_getElem? (i := 572) (by decide +kernel))⟩
theorem cv_X_213 : qCv "FlushProofs" 213 5 Y_XProver_room 0 := ⟨⟨(List.mem_of_getElem? (i := 37) rfl), (List.mem_of_getElem? (i := 436) (by decide +kernel)), by decide, by decide, by decide +kernel⟩, ⟨qU5, 7, rfl⟩, (List.mem_of_getElem? (i := 573) (by decide +kernel)), (List.mem_of_getElem? (i := 574) (by decide +kernel)), Or.inl (List.mem_of_getElem? (i := 575) (by decide +kernel))⟩
theorem cv_X_32 : qCv "FlushProofs" 32 0 Y_X_requireRoomForElement 0 := ⟨⟨(List.mem_of_getElem? (i := 74) rfl), (List.mem_of_getElem? (i := 222) (by decide +kernel)), by decide, by decide, by decide +kernel⟩, ⟨qU0, 3, rfl⟩, (List.mem_of_getElem? (i := 576) (by decide +kernel)), (List.mem_of_getElem? (i := 577) (by decide +kernel)), Or.inl (List.mem_of_getElem? (i := 578) (by decide +kernel))⟩
theorem cv_X_35 : qCv "FlushProofs" 35 1 Y_XCore_addElement 1 := ⟨⟨(List.mem_of_getElem? (i := 8) rfl), (List.mem_of_getElem? (i := 551) (by decide +kernel)), by decide, by decide, by decide +kernel⟩, ⟨qU1, 8, rfl⟩, (List.mem_of_getElem? (i := 579) (by decide +kernel)), (List.mem_of_getElem? (i := 580) (by decide +kernel)), Or.inl (List.mem_of_getElem? (i := 581) (by decide +kernel))⟩
theorem cv_X_39 : qCv "FlushProofs" 39 0 Y_X_requireNode 1 := ⟨⟨(List.mem_of_getElem? (i := 77) rfl), (List.mem_of_getElem? (i := 222) (by decide +kernel)), by decide, by decide, by decide +kernel⟩, ⟨qU0, 3, rfl⟩, (List.mem_of_getElem? (i := 582) (by decide +kernel)), (List.mem_of_getElem? (i := 583) (by decide +kernel)), Or.inl (List.mem_of_getElem? (i := 584) (by decide +kernel))⟩
theorem cv_X_49 : qCv "FlushProofs" 49 0 Y_X_requireWord 1 := ⟨⟨(List.mem_of_getElem? (i := 78) rfl), (List.mem_of_getElem? (i := 222) (by decide +kernel)), by decide, by decide, by decide +kernel⟩, ⟨qU0, 3, rfl⟩, (List.mem_of_getElem? (i := 585) (by decide +kernel)), (List.mem_of_getElem? (i := 586) (by decide +kernel)), Or.inl (List.mem_of_getElem? (i := 587) (by decide +kernel))⟩
theorem cv_X_56 : qCv "FlushProofs" 56 2 Y_XNodes_makeApplication 3 := ⟨⟨(List.mem_of_getElem? (i := 14) rfl), (List.mem_of_getElem? (i := 187) (by decide +kernel)), by decide, by decide, by decide +kernel⟩, ⟨qU2, 9, rfl⟩, (List.mem_of_getElem? (i := 400) (by decide +kernel)), (List.mem_of_getElem? (i := 401) (by decide +kernel)), Or.inl (List.mem_of_getElem? (i := 588) (by decide +kernel))⟩
theorem cv_X_65 : qCv "FlushProofs" 65 2 Y_XNodes_makeEquality 2 := ⟨⟨(List.mem_of_getElem? (i := 15) rfl), (List.mem_of_getElem? (i := 187) (by decide +kernel)), by decide, by decide, by decide +kernel⟩, ⟨qU2, 9, rfl⟩, (List.mem_of_getElem? (i := 391) (by decide +kernel)), (List.mem_of_getElem? (i := 392) (by decide +kernel)), Or.inl (List.mem_of_getElem? (i := 589) (by decide +kernel))⟩
theorem cv_X_69 : qCv "FlushProofs" 69 0 Y_X_requireTruth 1 := ⟨⟨(List.mem_of_getElem? (i := 82) rfl), (List.mem_of_getElem? (i := 222) (by decide +kernel)), by decide, by decide, by decide +kernel⟩, ⟨qU0, 3, rfl⟩, (List.mem_of_getElem? (i := 590) (by decide +kernel)), (List.mem_of_getElem? (i := 591) (by decide +kernel)), Or.inl (List.mem_of_getElem? (i := 592) (by decide +kernel))⟩
theorem cv_X_72 : qCv "FlushProofs" 72 2 Y_XNodes_makeNot 1 := ⟨⟨(List.mem_of_getElem? (i := 16) rfl), (List.mem_of_getElem? (i := 187) (by decide +kernel)), by decide, by decide, by decide +kernel⟩, ⟨qU2, 9, rfl⟩, (List.mem_of_getElem? (i := 394) (by decide +kernel)), (List.mem_of_getElem? (i := 395) (by decide +kernel)), Or.inl (List.mem_of_getElem? (i := 593) (by decide +kernel))⟩
theorem cv_X_75 : qCv "FlushProofs" 75 2 Y_XNodes_makeBoth 2 := ⟨⟨(List.mem_of_getElem? (i := 17) rfl), (List.mem_of_getElem? (i := 187) (by decide +kernel)), by decide, by decide, by decide +kernel⟩, ⟨qU2, 9, rfl⟩, (List.mem_of_getElem? (i := 403) (by decide +kernel)), (List.mem_of_getElem? (i := 404) (by decide +kernel)), Or.inl (List.mem_of_getElem? (i := 594) (by decide +kernel))⟩
theorem cv_X_78 : qCv "FlushProofs" 78 0 Y_X_requireSameSort 2 := ⟨⟨(List.mem_of_getElem? (i := 85) rfl), (List.mem_of_getElem? (i := 222) (by decide +kernel)), by decide, by decide, by decide +kernel⟩, ⟨qU0, 3, rfl⟩, (List.mem_of_getElem? (i := 595) (by decide +kernel)), (List.mem_of_getElem? (i := 596) (by decide +kernel)), Or.inl (List.mem_of_getElem? (i := 597) (by decide +kernel))⟩
theorem cv_X_82 : qCv "FlushProofs" 82 2 Y_XNodes_makeChoice 3 := ⟨⟨(List.mem_of_getElem? (i := 18) rfl), (List.mem_of_getElem? (i := 187) (by decide +kernel)), by decide, by decide, by decide +kernel⟩, ⟨qU2, 9, rfl⟩, (List.mem_of_getElem? (i := 397) (by decide +kernel)), (List.mem_of_getElem? (i := 398) (by decide +kernel)), Or.inl (List.mem_of_getElem? (i := 598) (by decide +kernel))⟩
theorem cv_X_85 : qCv "FlushProofs" 85 0 Y_X_requireElement 1 := ⟨⟨(List.mem_of_getElem? (i := 87) rfl), (List.mem_of_getElem? (i := 222) (by decide +kernel)), by decide, by decide, by decide +kernel⟩, ⟨qU0, 3, rfl⟩, (List.mem_of_getElem? (i := 599) (by decide +kernel)), (List.mem_of_getElem? (i := 600) (by decide +kernel)), Or.inl (List.mem_of_getElem? (i := 601) (by decide +kernel))⟩
theorem cv_X_92 : qCv "FlushProofs" 92 1 Y_XCore_tellNext 2 := ⟨⟨(List.mem_of_getElem? (i := 9) rfl), (List.mem_of_getElem? (i := 551) (by decide +kernel)), by decide, by decide, by decide +kernel⟩, ⟨qU1, 8, rfl⟩, (List.mem_of_getElem? (i := 602) (by decide +kernel)), (List.mem_of_getElem? (i := 603) (by decide +kernel)), Or.inl (List.mem_of_getElem? (i := 604) (by decide +kernel))⟩
theorem cv_X_96 : qCv "FlushProofs" 96 0 Y_X_requireNoFetch 1 := ⟨⟨(List.mem_of_getElem? (i := 89) rfl), (List.mem_of_getElem? (i := 222) (by decide +kernel)), by decide, by decide, by decide +kernel⟩, ⟨qU0, 3, rfl⟩, (List.mem_of_getElem? (i := 605) (by decide +kernel)), (List.mem_of_getElem? (i := 606) (by decide +kernel)), Or.inl (List.mem_of_getElem? (i := 607) (by decide +kernel))⟩
theorem cv_X_99 : qCv "FlushProofs" 99 1 Y_XCore_tellPlain 2 := ⟨⟨(List.mem_of_getElem? (i := 10) rfl), (List.mem_of_getElem? (i := 551) (by decide +kernel)), by decide, by decide, by decide +kernel⟩, ⟨qU1, 8, rfl⟩, (List.mem_of_getElem? (i := 608) (by decide +kernel)), (List.mem_of_getElem? (i := 609) (by decide +kernel)), Or.inl (List.mem_of_getElem? (i := 610) (by decide +kernel))⟩
theorem cs_XModel_115 : qCs "FlushProofsModel" 115 Y_XModel_within 3 := ⟨⟨(List.mem_of_getElem? (i := 110) rfl), (List.mem_of_getElem? (i := 194) (by decide +kernel)), by decide, by decide, by decide +kernel⟩, (List.mem_of_getElem? (i := 611) (by decide +kernel)), Or.inl (List.mem_of_getElem? (i := 612) (by decide +kernel))⟩
theorem cs_XModel_91 : qCs "FlushProofsModel" 91 Y_XModel_chainOf 4 := ⟨⟨(List.mem_of_getElem? (i := 100) rfl), (List.mem_of_getElem? (i := 194) (by decide +kernel)), by decide, by decide, by decide +kernel⟩, (List.mem_of_getElem? (i := 613) (by decide +kernel)), Or.inl (List.mem_of_getElem? (i := 614) (by decide +kernel))⟩
theorem cs_XNodes_37 : qCs "FlushProofs$Nodes" 37 Y_JArrays_fill 2 := ⟨⟨(List.mem_of_getElem? (i := 1) rfl), (List.mem_of_getElem? (i := 615) (by decide +kernel)), by decide, by decide, by decide +kernel⟩, (List.mem_of_getElem? (i := 616) (by decide +kernel)), Or.inl (List.mem_of_getElem? (i := 617) (by decide +kernel))⟩
theorem cs_XNodes_78 : qCs "FlushProofs$Nodes" 78 Y_XNodes_imageOf 2 := ⟨⟨(List.mem_of_getElem? (i := 20) rfl), (List.mem_of_getElem? (i := 187) (by decide +kernel)), by decide, by decide, by decide +kernel⟩, (List.mem_of_getElem? (i := 618) (by decide +kernel)), Or.inl (List.mem_of_getElem? (i := 619) (by decide +kernel))⟩
theorem cs_XOutcome_19 : qCs "FlushProofs$Outcome" 19 Y_JArrays_fill 2 := ⟨⟨(List.mem_of_getElem? (i := 1) rfl), (List.mem_of_getElem? (i := 615) (by decide +kernel)), by decide, by decide, by decide +kernel⟩, (List.mem_of_getElem? (i := 616) (by decide +kernel)), Or.inl (List.mem_of_getElem? (i := 620) (by decide +kernel))⟩
theorem cs_XSearch_153 : qCs "FlushProofs$Search" 153 Y_JArrays_fill 2 := ⟨⟨(List.mem_of_getElem? (i := 1) rfl), (List.mem_of_getElem? (i := 615) (by decide +kernel)), by decide, by decide, by decide +kernel⟩, (List.mem_of_getElem? (i := 616) (by decide +kernel)), Or.inl (List.mem_of_getElem? (i := 621) (by decide +kernel))⟩
theorem cs_XSearch_208 : qCs "FlushProofs$Search" 208 Y_JLong_bitCount 1 := ⟨⟨(List.mem_of_getElem? (i := 63) rfl), (List.mem_of_getElem? (i := 622) (by decide +kernel)), by decide, by decide, by decide +kernel⟩, (List.mem_of_getElem? (i := 623) (by decide +kernel)), Or.inl (List.mem_of_getElem? (i := 624) (by decide +kernel))⟩
theorem cs_XSearch_83 : qCs "FlushProofs$Search" 83 Y_XSearch_statesBelow 1 := ⟨⟨(List.mem_of_getElem? (i := 61) rfl), (List.mem_of_getElem? (i := 450) (by decide +kernel)), by decide, by decide, by decide +kernel⟩, (List.mem_of_getElem? (i := 625) (by decide +kernel)), Or.inl (List.mem_of_getElem? (i := 626) (by decide +kernel))⟩
theorem cs_X_62 : qCs "FlushProofs" 62 Y_X_landed 1 := ⟨⟨(List.mem_of_getElem? (i := 79) rfl), (List.mem_of_getElem? (i := 222) (by decide +kernel)), by decide, by decide, by decide +kernel⟩, (List.mem_of_getElem? (i := 627) (by decide +kernel)), Or.inl (List.mem_of_getElem? (i := 628) (by decide +kernel))⟩
theorem cw_XLaw_101 : qCw "FlushProofsLaw" 101 Y_XLaw_next 4 := ⟨mw_XLaw_next, (List.mem_of_getElem? (i := 629) (by decide +kernel)), by decide, by decide, by decide +kernel, (List.mem_of_getElem? (i := 630) (by decide +kernel)), (List.mem_of_getElem? (i := 631) (by decide +kernel))⟩
theorem cw_XLaw_104 : qCw "FlushProofsLaw" 104 Y_XLaw_plain 4 := ⟨mw_XLaw_plain, (List.mem_of_getElem? (i := 629) (by decide +kernel)), by decide, by decide, by decide +kernel, (List.mem_of_getElem? (i := 632) (by decide +kernel)), (List.mem_of_getElem? (i := 633) (by decide +kernel))⟩
theorem cw_XLaw_107 : qCw "FlushProofsLaw" 107 Y_XLaw_invariant 3 := ⟨mw_XLaw_invariant, (List.mem_of_getElem? (i := 629) (by decide +kernel)), by decide, by decide, by decide +kernel, (List.mem_of_getElem? (i := 634) (by decide +kernel)), (List.mem_of_getElem? (i := 635) (by decide +kernel))⟩
theorem cw_XLaw_110 : qCw "FlushProofsLaw" 110 Y_XLaw_run 3 := ⟨mw_XLaw_run, (List.mem_of_getElem? (i := 629) (by decide +kernel)), by decide, by decide, by decide +kernel, (List.mem_of_getElem? (i := 636) (by decide +kernel)), (List.mem_of_getElem? (i := 637) (by decide +kernel))⟩
theorem cw_XLaw_113 : qCw "FlushProofsLaw" 113 Y_XLaw_kept 3 := ⟨mw_XLaw_kept, (List.mem_of_getElem? (i := 629) (by decide +kernel)), by decide, by decide, by decide +kernel, (List.mem_of_getElem? (i := 638) (by decide +kernel)), (List.mem_of_getElem? (i := 639) (by decide +kernel))⟩
theorem cw_XLaw_116 : qCw "FlushProofsLaw" 116 Y_XLaw_witness 3 := ⟨mw_XLaw_witness, (List.mem_of_getElem? (i := 629) (by decide +kernel)), by decide, by decide, by decide +kernel, (List.mem_of_getElem? (i := 640) (by decide +kernel)), (List.mem_of_getElem? (i := 641) (by decide +kernel))⟩
theorem cw_XLaw_119 : qCw "FlushProofsLaw" 119 Y_XLaw_differs 2 := ⟨mw_XLaw_differs, (List.mem_of_getElem? (i := 629) (by decide +kernel)), by decide, by decide, by decide +kernel, (List.mem_of_getElem? (i := 642) (by decide +kernel)), (List.mem_of_getElem? (i := 643) (by decide +kernel))⟩
theorem cw_XLaw_122 : qCw "FlushProofsLaw" 122 Y_XLaw_node 4 := ⟨mw_XLaw_node, (List.mem_of_getElem? (i := 629) (by decide +kernel)), by decide, by decide, by decide +kernel, (List.mem_of_getElem? (i := 644) (by decide +kernel)), (List.mem_of_getElem? (i := 645) (by decide +kernel))⟩
theorem cw_XLaw_71 : qCw "FlushProofsLaw" 71 Y_XLaw_word 2 := ⟨mw_XLaw_word, (List.mem_of_getElem? (i := 629) (by decide +kernel)), by decide, by decide, by decide +kernel, (List.mem_of_getElem? (i := 646) (by decide +kernel)), (List.mem_of_getElem? (i := 647) (by decide +kernel))⟩
theorem cw_XLaw_80 : qCw "FlushProofsLaw" 80 Y_XLaw_truth 2 := ⟨mw_XLaw_truth, (List.mem_of_getElem? (i := 629) (by decide +kernel)), by decide, by decide, by decide +kernel, (List.mem_of_getElem? (i := 648) (by decide +kernel)), (List.mem_of_getElem? (i := 649) (by decide +kernel))⟩
theorem cw_XLaw_83 : qCw "FlushProofsLaw" 83 Y_XLaw_apply 5 := ⟨mw_XLaw_apply, (List.mem_of_getElem? (i := 629) (by decide +kernel)), by decide, by decide, by decide +kernel, (List.mem_of_getElem? (i := 650) (by decide +kernel)), (List.mem_of_getElem? (i := 651) (by decide +kernel))⟩
theorem cw_XLaw_87 : qCw "FlushProofsLaw" 87 Y_XLaw_equal 4 := ⟨mw_XLaw_equal, (List.mem_of_getElem? (i := 629) (by decide +kernel)), by decide, by decide, by decide +kernel, (List.mem_of_getElem? (i := 652) (by decide +kernel)), (List.mem_of_getElem? (i := 653) (by decide +kernel))⟩
theorem cw_XLaw_91 : qCw "FlushProofsLaw" 91 Y_XLaw_not 3 := ⟨mw_XLaw_not, (List.mem_of_getElem? (i := 629) (by decide +kernel)), by decide, by decide, by decide +kernel, (List.mem_of_getElem? (i := 654) (by decide +kernel)), (List.mem_of_getElem? (i := 655) (by decide +kernel))⟩
theorem cw_XLaw_95 : qCw "FlushProofsLaw" 95 Y_XLaw_both 4 := ⟨mw_XLaw_both, (List.mem_of_getElem? (i := 629) (by decide +kernel)), by decide, by decide, by decide +kernel, (List.mem_of_getElem? (i := 656) (by decide +kernel)), (List.mem_of_getElem? (i := 657) (by decide +kernel))⟩
theorem cw_XLaw_98 : qCw "FlushProofsLaw" 98 Y_XLaw_choice 5 := ⟨mw_XLaw_choice, (List.mem_of_getElem? (i := 629) (by decide +kernel)), by decide, by decide, by decide +kernel, (List.mem_of_getElem? (i := 658) (by decide +kernel)), (List.mem_of_getElem? (i := 659) (by decide +kernel))⟩
theorem ci_XCore_11 : qCi "FlushProofs$Core" 11 Y_XNodes_init 1 := ⟨⟨(List.mem_of_getElem? (i := 0) rfl), (List.mem_of_getElem? (i := 187) (by decide +kernel)), by decide, by decide, by decide +kernel⟩, rfl, rfl, (List.mem_of_getElem? (i := 660) (by decide +kernel)), (List.mem_of_getElem? (i := 661) (by decide +kernel))⟩
theorem ci_XLaw_67 : qCi "FlushProofsLaw" 67 Y_X_init 0 := ⟨⟨(List.mem_of_getElem? (i := 73) rfl), (List.mem_of_getElem? (i := 222) (by decide +kernel)), by decide, by decide, by decide +kernel⟩, rfl, rfl, (List.mem_of_getElem? (i := 662) (by decide +kernel)), (List.mem_of_getElem? (i := 663) (by decide +kernel))⟩
theorem ci_XLaw_70 : qCi "FlushProofsLaw" 70 Y_XModel_init 0 := ⟨⟨(List.mem_of_getElem? (i := 103) rfl), (List.mem_of_getElem? (i := 194) (by decide +kernel)), by decide, by decide, by decide +kernel⟩, rfl, rfl, (List.mem_of_getElem? (i := 664) (by decide +kernel)), (List.mem_of_getElem? (i := 665) (by decide +kernel))⟩
theorem ci_XProver_11 : qCi "FlushProofs$Prover" 11 Y_XNodes_init 1 := ⟨⟨(List.mem_of_getElem? (i := 0) rfl), (List.mem_of_getElem? (i := 187) (by decide +kernel)), by decide, by decide, by decide +kernel⟩, rfl, rfl, (List.mem_of_getElem? (i := 660) (by decide +kernel)), (List.mem_of_getElem? (i := 666) (by decide +kernel))⟩
theorem ci_XProver_22 : qCi "FlushProofs$Prover" 22 Y_XQuestion_init 0 := ⟨⟨(List.mem_of_getElem? (i := 34) rfl), (List.mem_of_getElem? (i := 427) (by decide +kernel)), by decide, by decide, by decide +kernel⟩, rfl, rfl, (List.mem_of_getElem? (i := 667) (by decide +kernel)), (List.mem_of_getElem? (i := 668) (by decide +kernel))⟩
theorem ci_XProver_29 : qCi "FlushProofs$Prover" 29 Y_XSearch_init 2 := ⟨⟨(List.mem_of_getElem? (i := 35) rfl), (List.mem_of_getElem? (i := 450) (by decide +kernel)), by decide, by decide, by decide +kernel⟩, rfl, rfl, (List.mem_of_getElem? (i := 669) (by decide +kernel)), (List.mem_of_getElem? (i := 670) (by decide +kernel))⟩
theorem ci_XSearch_21 : qCi "FlushProofs$Search" 21 Y_XPlanes_init 1 := ⟨⟨(List.mem_of_getElem? (i := 27) rfl), (List.mem_of_getElem? (i := 415) (by decide +kernel)), by decide, by decide, by decide +kernel⟩, rfl, rfl, (List.mem_of_getElem? (i := 671) (by decide +kernel)), (List.mem_of_getElem? (i := 672) (by decide +kernel))⟩
theorem ci_X_18 : qCi "FlushProofs" 18 Y_XOutcome_init 0 := ⟨⟨(List.mem_of_getElem? (i := 24) rfl), (List.mem_of_getElem? (i := 443) (by decide +kernel)), by decide, by decide, by decide +kernel⟩, rfl, rfl, (List.mem_of_getElem? (i := 673) (by decide +kernel)), (List.mem_of_getElem? (i := 674) (by decide +kernel))⟩
theorem ci_X_25 : qCi "FlushProofs" 25 Y_XProver_init 1 := ⟨⟨(List.mem_of_getElem? (i := 36) rfl), (List.mem_of_getElem? (i := 436) (by decide +kernel)), by decide, by decide, by decide +kernel⟩, rfl, rfl, (List.mem_of_getElem? (i := 675) (by decide +kernel)), (List.mem_of_getElem? (i := 676) (by decide +kernel))⟩
theorem ci_X_9 : qCi "FlushProofs" 9 Y_XCore_init 0 := ⟨⟨(List.mem_of_getElem? (i := 6) rfl), (List.mem_of_getElem? (i := 551) (by decide +kernel)), by decide, by decide, by decide +kernel⟩, rfl, rfl, (List.mem_of_getElem? (i := 677) (by decide +kernel)), (List.mem_of_getElem? (i := 678) (by decide +kernel))⟩
theorem lk_XLaw_15 : Cond.methodLink "FlushProofsLaw" 15 Y_X_truth.1 ∈ qTT := (List.mem_of_getElem? (i := 231) (by decide +kernel))
theorem lk_XLaw_18 : Cond.methodLink "FlushProofsLaw" 18 Y_X_apply.1 ∈ qTT := (List.mem_of_getElem? (i := 234) (by decide +kernel))
theorem lk_XLaw_26 : Cond.methodLink "FlushProofsLaw" 26 Y_X_equal.1 ∈ qTT := (List.mem_of_getElem? (i := 237) (by decide +kernel))
theorem lk_XLaw_30 : Cond.methodLink "FlushProofsLaw" 30 Y_X_not.1 ∈ qTT := (List.mem_of_getElem? (i := 240) (by decide +kernel))
theorem lk_XLaw_34 : Cond.methodLink "FlushProofsLaw" 34 Y_X_both.1 ∈ qTT := (List.mem_of_getElem? (i := 243) (by decide +kernel))
theorem lk_XLaw_37 : Cond.methodLink "FlushProofsLaw" 37 Y_X_choice.1 ∈ qTT := (List.mem_of_getElem? (i := 246) (by decide +kernel))
theorem lk_XLaw_40 : Cond.methodLink "FlushProofsLaw" 40 Y_X_next.1 ∈ qTT := (List.mem_of_getElem? (i := 249) (by decide +kernel))
theorem lk_XLaw_44 : Cond.methodLink "FlushProofsLaw" 44 Y_X_plain.1 ∈ qTT := (List.mem_of_getElem? (i := 252) (by decide +kernel))
theorem lk_XLaw_47 : Cond.methodLink "FlushProofsLaw" 47 Y_X_invariant.1 ∈ qTT := (List.mem_of_getElem? (i := 255) (by decide +kernel))
theorem lk_XLaw_52 : Cond.methodLink "FlushProofsLaw" 52 Y_X_run.1 ∈ qTT := (List.mem_of_getElem? (i := 258) (by decide +kernel))
theorem lk_XLaw_55 : Cond.methodLink "FlushProofsLaw" 55 Y_X_kept.1 ∈ qTT := (List.mem_of_getElem? (i := 261) (by decide +kernel))
theorem lk_XLaw_58 : Cond.methodLink "FlushProofsLaw" 58 Y_X_witness.1 ∈ qTT := (List.mem_of_getElem? (i := 264) (by decide +kernel))
theorem lk_XLaw_61 : Cond.methodLink "FlushProofsLaw" 61 Y_X_differs.1 ∈ qTT := (List.mem_of_getElem? (i := 267) (by decide +kernel))
theorem lk_XLaw_64 : Cond.methodLink "FlushProofsLaw" 64 Y_X_node.1 ∈ qTT := (List.mem_of_getElem? (i := 270) (by decide +kernel))
theorem lk_XLaw_7 : Cond.methodLink "FlushProofsLaw" 7 Y_X_word.1 ∈ qTT := (List.mem_of_getElem? (i := 273) (by decide +kernel))
theorem lk_X_138 : Cond.methodLink "FlushProofs" 138 Y_X_requireFailure.1 ∈ qTT := (List.mem_of_getElem? (i := 569) (by decide +kernel))
theorem lk_X_32 : Cond.methodLink "FlushProofs" 32 Y_X_requireRoomForElement.1 ∈ qTT := (List.mem_of_getElem? (i := 578) (by decide +kernel))
theorem lk_X_39 : Cond.methodLink "FlushProofs" 39 Y_X_requireNode.1 ∈ qTT := (List.mem_of_getElem? (i := 584) (by decide +kernel))
theorem lk_X_49 : Cond.methodLink "FlushProofs" 49 Y_X_requireWord.1 ∈ qTT := (List.mem_of_getElem? (i := 587) (by decide +kernel))
theorem lk_X_62 : Cond.methodLink "FlushProofs" 62 Y_X_landed.1 ∈ qTT := (List.mem_of_getElem? (i := 628) (by decide +kernel))
theorem lk_X_69 : Cond.methodLink "FlushProofs" 69 Y_X_requireTruth.1 ∈ qTT := (List.mem_of_getElem? (i := 592) (by decide +kernel))
theorem lk_X_78 : Cond.methodLink "FlushProofs" 78 Y_X_requireSameSort.1 ∈ qTT := (List.mem_of_getElem? (i := 597) (by decide +kernel))
theorem lk_X_85 : Cond.methodLink "FlushProofs" 85 Y_X_requireElement.1 ∈ qTT := (List.mem_of_getElem? (i := 601) (by decide +kernel))
theorem lk_X_96 : Cond.methodLink "FlushProofs" 96 Y_X_requireNoFetch.1 ∈ qTT := (List.mem_of_getElem? (i := 607) (by decide +kernel))
theorem nw_XCore_9 : qNw "FlushProofs$Core" 9 2 := ⟨"FlushProofs$Nodes", qU2, 9, rfl, (List.mem_of_getElem? (i := 679) (by decide +kernel)), (List.mem_of_getElem? (i := 680) (by decide +kernel)), (List.mem_of_getElem? (i := 187) (by decide +kernel))⟩
theorem nw_XLaw_68 : qNw "FlushProofsLaw" 68 8 := ⟨"FlushProofsModel", qU8, 36, rfl, (List.mem_of_getElem? (i := 681) (by decide +kernel)), (List.mem_of_getElem? (i := 682) (by decide +kernel)), (List.mem_of_getElem? (i := 194) (by decide +kernel))⟩
theorem nw_XLaw_8 : qNw "FlushProofsLaw" 8 0 := ⟨"FlushProofs", qU0, 3, rfl, (List.mem_of_getElem? (i := 683) (by decide +kernel)), (List.mem_of_getElem? (i := 684) (by decide +kernel)), (List.mem_of_getElem? (i := 222) (by decide +kernel))⟩
theorem nw_XProver_20 : qNw "FlushProofs$Prover" 20 6 := ⟨"FlushProofs$Question", qU6, 5, rfl, (List.mem_of_getElem? (i := 685) (by decide +kernel)), (List.mem_of_getElem? (i := 686) (by decide +kernel)), (List.mem_of_getElem? (i := 427) (by decide +kernel))⟩
theorem nw_XProver_27 : qNw "FlushProofs$Prover" 27 7 := ⟨"FlushProofs$Search", qU7, 15, rfl, (List.mem_of_getElem? (i := 687) (by decide +kernel)), (List.mem_of_getElem? (i := 688) (by decide +kernel)), (List.mem_of_getElem? (i := 450) (by decide +kernel))⟩
theorem nw_XProver_9 : qNw "FlushProofs$Prover" 9 2 := ⟨"FlushProofs$Nodes", qU2, 9, rfl, (List.mem_of_getElem? (i := 689) (by decide +kernel)), (List.mem_of_getElem? (i := 680) (by decide +kernel)), (List.mem_of_getElem? (i := 187) (by decide +kernel))⟩
theorem nw_XSearch_19 : qNw "FlushProofs$Search" 19 4 := ⟨"FlushProofs$Planes", qU4, 4, rfl, (List.mem_of_getElem? (i := 690) (by decide +kernel)), (List.mem_of_getElem? (i := 691) (by decide +kernel)), (List.mem_of_getElem? (i := 415) (by decide +kernel))⟩
theorem nw_X_16 : qNw "FlushProofs" 16 3 := ⟨"FlushProofs$Outcome", qU3, 7, rfl, (List.mem_of_getElem? (i := 692) (by decide +kernel)), (List.mem_of_getElem? (i := 693) (by decide +kernel)), (List.mem_of_getElem? (i := 443) (by decide +kernel))⟩
theorem nw_X_23 : qNw "FlushProofs" 23 5 := ⟨"FlushProofs$Prover", qU5, 7, rfl, (List.mem_of_getElem? (i := 694) (by decide +kernel)), (List.mem_of_getElem? (i := 695) (by decide +kernel)), (List.mem_of_getElem? (i := 436) (by decide +kernel))⟩
theorem nw_X_7 : qNw "FlushProofs" 7 1 := ⟨"FlushProofs$Core", qU1, 8, rfl, (List.mem_of_getElem? (i := 696) (by decide +kernel)), (List.mem_of_getElem? (i := 697) (by decide +kernel)), (List.mem_of_getElem? (i := 551) (by decide +kernel))⟩
theorem ob_XCore_3 : Cond.methodLink "FlushProofs$Core" 3 objectInit ∈ qTT := (List.mem_of_getElem? (i := 698) (by decide +kernel))
theorem ob_XModel_1 : Cond.methodLink "FlushProofsModel" 1 objectInit ∈ qTT := (List.mem_of_getElem? (i := 699) (by decide +kernel))
theorem ob_XNodes_3 : Cond.methodLink "FlushProofs$Nodes" 3 objectInit ∈ qTT := (List.mem_of_getElem? (i := 700) (by decide +kernel))
theorem ob_XOutcome_3 : Cond.methodLink "FlushProofs$Outcome" 3 objectInit ∈ qTT := (List.mem_of_getElem? (i := 701) (by decide +kernel))
theorem ob_XPlanes_3 : Cond.methodLink "FlushProofs$Planes" 3 objectInit ∈ qTT := (List.mem_of_getElem? (i := 702) (by decide +kernel))
theorem ob_XProver_3 : Cond.methodLink "FlushProofs$Prover" 3 objectInit ∈ qTT := (List.mem_of_getElem? (i := 703) (by decide +kernel))
theorem ob_XQuestion_3 : Cond.methodLink "FlushProofs$Question" 3 objectInit ∈ qTT := (List.mem_of_getElem? (i := 704) (by decide +kernel))
theorem ob_XSearch_3 : Cond.methodLink "FlushProofs$Search" 3 objectInit ∈ qTT := (List.mem_of_getElem? (i := 705) (by decide +kernel))
theorem ob_X_1 : Cond.methodLink "FlushProofs" 1 objectInit ∈ qTT := (List.mem_of_getElem? (i := 706) (by decide +kernel))
theorem ma_XNodes_51 : qMath_min "FlushProofs$Nodes" 51 := ⟨(List.mem_of_getElem? (i := 707) (by decide +kernel)), (List.mem_of_getElem? (i := 708) (by decide +kernel)), (List.mem_of_getElem? (i := 709) (by decide +kernel)), (List.mem_of_getElem? (i := 151) rfl)⟩
theorem ma_XNodes_57 : qMath_max "FlushProofs$Nodes" 57 := ⟨(List.mem_of_getElem? (i := 710) (by decide +kernel)), (List.mem_of_getElem? (i := 711) (by decide +kernel)), (List.mem_of_getElem? (i := 709) (by decide +kernel)), (List.mem_of_getElem? (i := 150) rfl)⟩
theorem ma_XSearch_144 : qMath_max "FlushProofs$Search" 144 := ⟨(List.mem_of_getElem? (i := 712) (by decide +kernel)), (List.mem_of_getElem? (i := 711) (by decide +kernel)), (List.mem_of_getElem? (i := 709) (by decide +kernel)), (List.mem_of_getElem? (i := 150) rfl)⟩
theorem cp_XSearch_217 : qCp "FlushProofs$Search" 217 := ⟨(List.mem_of_getElem? (i := 713) (by decide +kernel)), (List.mem_of_getElem? (i := 714) (by decide +kernel)), (List.mem_of_getElem? (i := 715) (by decide +kernel)), (List.mem_of_getElem? (i := 716) (by decide +kernel))⟩
theorem ct_JLong_314 : (Cond.constantLong "java/lang/Long" 314 (6148914691236517205 : Int64)) ∈ qTT := (List.mem_of_getElem? (i := 717) (by decide +kernel))
theorem ct_JLong_316 : (Cond.constantLong "java/lang/Long" 316 (3689348814741910323 : Int64)) ∈ qTT := (List.mem_of_getElem? (i := 718) (by decide +kernel))
theorem ct_JLong_318 : (Cond.constantLong "java/lang/Long" 318 (1085102592571150095 : Int64)) ∈ qTT := (List.mem_of_getElem? (i := 719) (by decide +kernel))
theorem ct_XModel_90 : (Cond.constant "FlushProofsModel" 90 (2147483647 : Int32)) ∈ qTT := (List.mem_of_getElem? (i := 720) (by decide +kernel))
theorem ct_XPlanes_31 : (Cond.constantLong "FlushProofs$Planes" 31 (-1 : Int64)) ∈ qTT := (List.mem_of_getElem? (i := 721) (by decide +kernel))
theorem ct_XSearch_163 : (Cond.constantLong "FlushProofs$Search" 163 (-1 : Int64)) ∈ qTT := (List.mem_of_getElem? (i := 722) (by decide +kernel))
theorem gs_XSearch_165 : qGs "FlushProofs$Search" 165 := Or.inr ⟨"FlushProofs", (List.mem_of_getElem? (i := 51) (by decide +kernel))⟩
end
section
set_option maxRecDepth 100000 in
theorem xa_X_46 : ∀ w ∈ Bundle.ownAtoms "FlushProofs" 46 "java/lang/IllegalArgumentException" ["java/lang/RuntimeException", "java/lang/Exception"], qHp w = true ∨ (w ∈ lw_tbl ∧ qGw w = true) := by decide +kernel
theorem th_X_apply_25 : qTh Y_X_apply 25 "java/lang/IllegalArgumentException" 2 := ⟨"no such function", ["java/lang/RuntimeException", "java/lang/Exception"], 42, 44, 46, rfl, by decide +kernel, by decide +kernel, (List.mem_of_getElem? (i := 531) (by decide +kernel)), (List.mem_of_getElem? (i := 82) (by decide +kernel)), List.mem_of_getElem? (i := 2) (by decide +kernel), xa_X_46, by decide +kernel, by decide +kernel, by decide +kernel, by decide +kernel, by decide +kernel⟩
set_option maxRecDepth 100000 in
theorem xa_X_110 : ∀ w ∈ Bundle.ownAtoms "FlushProofs" 110 "java/lang/IllegalStateException" ["java/lang/RuntimeException", "java/lang/Exception"], qHp w = true ∨ (w ∈ lw_tbl ∧ qGw w = true) := by decide +kernel
theorem th_X_invariant_27 : qTh Y_X_invariant 27 "java/lang/IllegalStateException" 2 := ⟨"there are eight invariants", ["java/lang/RuntimeException", "java/lang/Exception"], 106, 108, 110, rfl, by decide +kernel, by decide +kernel, (List.mem_of_getElem? (i := 663) (by decide +kernel)), (List.mem_of_getElem? (i := 84) (by decide +kernel)), List.mem_of_getElem? (i := 9) (by decide +kernel), xa_X_110, by decide +kernel, by decide +kernel, by decide +kernel, by decide +kernel, by decide +kernel⟩
set_option maxRecDepth 100000 in
theorem xa_X_134 : ∀ w ∈ Bundle.ownAtoms "FlushProofs" 134 "java/lang/IndexOutOfBoundsException" ["java/lang/RuntimeException", "java/lang/Exception"], qHp w = true ∨ (w ∈ lw_tbl ∧ qGw w = true) := by decide +kernel
theorem th_X_kept_15 : qTh Y_X_kept 15 "java/lang/IndexOutOfBoundsException" 2 := ⟨"no such invariant", ["java/lang/RuntimeException", "java/lang/Exception"], 130, 132, 134, rfl, by decide +kernel, by decide +kernel, (List.mem_of_getElem? (i := 515) (by decide +kernel)), (List.mem_of_getElem? (i := 81) (by decide +kernel)), List.mem_of_getElem? (i := 11) (by decide +kernel), xa_X_134, by decide +kernel, by decide +kernel, by decide +kernel, by decide +kernel, by decide +kernel⟩
set_option maxRecDepth 100000 in
theorem xa_X_186 : ∀ w ∈ Bundle.ownAtoms "FlushProofs" 186 "java/lang/UnsupportedOperationException" ["java/lang/RuntimeException", "java/lang/Exception"], qHp w = true ∨ (w ∈ lw_tbl ∧ qGw w = true) := by decide +kernel
theorem th_X_landed_5 : qTh Y_X_landed 5 "java/lang/UnsupportedOperationException" 2 := ⟨"there are 300 nodes", ["java/lang/RuntimeException", "java/lang/Exception"], 182, 211, 186, rfl, by decide +kernel, by decide +kernel, (List.mem_of_getElem? (i := 414) (by decide +kernel)), (List.mem_of_getElem? (i := 80) (by decide +kernel)), List.mem_of_getElem? (i := 4) (by decide +kernel), xa_X_186, by decide +kernel, by decide +kernel, by decide +kernel, by decide +kernel, by decide +kernel⟩
theorem th_X_node_88 : qTh Y_X_node 88 "java/lang/IndexOutOfBoundsException" 2 := ⟨"a node has a kind and three parts", ["java/lang/RuntimeException", "java/lang/Exception"], 130, 167, 134, rfl, by decide +kernel, by decide +kernel, (List.mem_of_getElem? (i := 515) (by decide +kernel)), (List.mem_of_getElem? (i := 81) (by decide +kernel)), List.mem_of_getElem? (i := 14) (by decide +kernel), xa_X_134, by decide +kernel, by decide +kernel, by decide +kernel, by decide +kernel, by decide +kernel⟩
theorem th_X_requireElement_15 : qTh Y_X_requireElement 15 "java/lang/IndexOutOfBoundsException" 2 := ⟨"no such element", ["java/lang/RuntimeException", "java/lang/Exception"], 130, 193, 134, rfl, by decide +kernel, by decide +kernel, (List.mem_of_getElem? (i := 515) (by decide +kernel)), (List.mem_of_getElem? (i := 81) (by decide +kernel)), List.mem_of_getElem? (i := 7) (by decide +kernel), xa_X_134, by decide +kernel, by decide +kernel, by decide +kernel, by decide +kernel, by decide +kernel⟩
theorem th_X_requireFailure_10 : qTh Y_X_requireFailure 10 "java/lang/IllegalStateException" 2 := ⟨"the latest question did not fail", ["java/lang/RuntimeException", "java/lang/Exception"], 106, 209, 110, rfl, by decide +kernel, by decide +kernel, (List.mem_of_getElem? (i := 663) (by decide +kernel)), (List.mem_of_getElem? (i := 84) (by decide +kernel)), List.mem_of_getElem? (i := 12) (by decide +kernel), xa_X_110, by decide +kernel, by decide +kernel, by decide +kernel, by decide +kernel, by decide +kernel⟩
theorem th_X_requireNoFetch_14 : qTh Y_X_requireNoFetch 14 "java/lang/IllegalArgumentException" 2 := ⟨"FETCH must not be in it", ["java/lang/RuntimeException", "java/lang/Exception"], 42, 207, 46, rfl, by decide +kernel, by decide +kernel, (List.mem_of_getElem? (i := 531) (by decide +kernel)), (List.mem_of_getElem? (i := 82) (by decide +kernel)), List.mem_of_getElem? (i := 8) (by decide +kernel), xa_X_46, by decide +kernel, by decide +kernel, by decide +kernel, by decide +kernel, by decide +kernel⟩
theorem th_X_requireNode_14 : qTh Y_X_requireNode 14 "java/lang/IndexOutOfBoundsException" 2 := ⟨"no such node", ["java/lang/RuntimeException", "java/lang/Exception"], 130, 191, 134, rfl, by decide +kernel, by decide +kernel, (List.mem_of_getElem? (i := 515) (by decide +kernel)), (List.mem_of_getElem? (i := 81) (by decide +kernel)), List.mem_of_getElem? (i := 1) (by decide +kernel), xa_X_134, by decide +kernel, by decide +kernel, by decide +kernel, by decide +kernel, by decide +kernel⟩
theorem th_X_requireRoomForElement_28 : qTh Y_X_requireRoomForElement 28 "java/lang/UnsupportedOperationException" 2 := ⟨"no room for an element", ["java/lang/RuntimeException", "java/lang/Exception"], 182, 184, 186, rfl, by decide +kernel, by decide +kernel, (List.mem_of_getElem? (i := 414) (by decide +kernel)), (List.mem_of_getElem? (i := 80) (by decide +kernel)), List.mem_of_getElem? (i := 0) (by decide +kernel), xa_X_186, by decide +kernel, by decide +kernel, by decide +kernel, by decide +kernel, by decide +kernel⟩
theorem th_X_requireSameSort_25 : qTh Y_X_requireSameSort 25 "java/lang/IllegalArgumentException" 2 := ⟨"nodes of one sort are wanted", ["java/lang/RuntimeException", "java/lang/Exception"], 42, 202, 46, rfl, by decide +kernel, by decide +kernel, (List.mem_of_getElem? (i := 531) (by decide +kernel)), (List.mem_of_getElem? (i := 82) (by decide +kernel)), List.mem_of_getElem? (i := 6) (by decide +kernel), xa_X_46, by decide +kernel, by decide +kernel, by decide +kernel, by decide +kernel, by decide +kernel⟩
theorem th_X_requireTruth_14 : qTh Y_X_requireTruth 14 "java/lang/IllegalArgumentException" 2 := ⟨"a truth node is wanted", ["java/lang/RuntimeException", "java/lang/Exception"], 42, 200, 46, rfl, by decide +kernel, by decide +kernel, (List.mem_of_getElem? (i := 531) (by decide +kernel)), (List.mem_of_getElem? (i := 82) (by decide +kernel)), List.mem_of_getElem? (i := 5) (by decide +kernel), xa_X_46, by decide +kernel, by decide +kernel, by decide +kernel, by decide +kernel, by decide +kernel⟩
theorem th_X_requireWord_14 : qTh Y_X_requireWord 14 "java/lang/IllegalArgumentException" 2 := ⟨"a word node is wanted", ["java/lang/RuntimeException", "java/lang/Exception"], 42, 198, 46, rfl, by decide +kernel, by decide +kernel, (List.mem_of_getElem? (i := 531) (by decide +kernel)), (List.mem_of_getElem? (i := 82) (by decide +kernel)), List.mem_of_getElem? (i := 3) (by decide +kernel), xa_X_46, by decide +kernel, by decide +kernel, by decide +kernel, by decide +kernel, by decide +kernel⟩
theorem th_X_run_10 : qTh Y_X_run 10 "java/lang/IllegalArgumentException" 2 := ⟨"no such depth", ["java/lang/RuntimeException", "java/lang/Exception"], 42, 114, 46, rfl, by decide +kernel, by decide +kernel, (List.mem_of_getElem? (i := 531) (by decide +kernel)), (List.mem_of_getElem? (i := 82) (by decide +kernel)), List.mem_of_getElem? (i := 10) (by decide +kernel), xa_X_46, by decide +kernel, by decide +kernel, by decide +kernel, by decide +kernel, by decide +kernel⟩
theorem th_X_witness_32 : qTh Y_X_witness 32 "java/lang/IndexOutOfBoundsException" 2 := ⟨"no such element then", ["java/lang/RuntimeException", "java/lang/Exception"], 130, 147, 134, rfl, by decide +kernel, by decide +kernel, (List.mem_of_getElem? (i := 515) (by decide +kernel)), (List.mem_of_getElem? (i := 81) (by decide +kernel)), List.mem_of_getElem? (i := 13) (by decide +kernel), xa_X_134, by decide +kernel, by decide +kernel, by decide +kernel, by decide +kernel, by decide +kernel⟩
theorem ca_XLaw_apply_0 : qCa Y_XLaw_apply 7 "java/lang/IndexOutOfBoundsException" 15 2 := ⟨[], (0, 12, 15, 22), [(0, 12, 19, 24), (0, 12, 23, 13)], hd_XLaw_apply, rfl, by decide, by decide, by decide, (List.mem_of_getElem? (i := 501) (by decide +kernel)), (List.mem_of_getElem? (i := 517) (by decide +kernel)), fun _ h => absurd h List.not_mem_nil, Or.inr ⟨5, by decide +kernel, by decide, rfl⟩⟩
theorem ca_XLaw_apply_1 : qCa Y_XLaw_apply 7 "java/lang/IllegalArgumentException" 19 2 := ⟨[(0, 12, 15, 22)], (0, 12, 19, 24), [(0, 12, 23, 13)], hd_XLaw_apply, rfl, by decide, by decide, by decide, (List.mem_of_getElem? (i := 502) (by decide +kernel)), (List.mem_of_getElem? (i := 533) (by decide +kernel)), List.forall_mem_cons.mpr ⟨⟨by decide, "java/lang/IndexOutOfBoundsException", (List.mem_of_getElem? (i := 501) (by decide +kernel)), List.mem_of_getElem? (i := 3) rfl⟩, fun _ h => absurd h List.not_mem_nil⟩, Or.inr ⟨5, by decide +kernel, by decide, rfl⟩⟩
theorem ca_XLaw_apply_2 : qCa Y_XLaw_apply 7 "java/lang/UnsupportedOperationException" 23 2 := ⟨[(0, 12, 15, 22), (0, 12, 19, 24)], (0, 12, 23, 13), [], hd_XLaw_apply, rfl, by decide, by decide, by decide, (List.mem_of_getElem? (i := 405) (by decide +kernel)), (List.mem_of_getElem? (i := 416) (by decide +kernel)), List.forall_mem_cons.mpr ⟨⟨by decide, "java/lang/IndexOutOfBoundsException", (List.mem_of_getElem? (i := 501) (by decide +kernel)), List.mem_of_getElem? (i := 6) rfl⟩, List.forall_mem_cons.mpr ⟨⟨by decide, "java/lang/IllegalArgumentException", (List.mem_of_getElem? (i := 502) (by decide +kernel)), List.mem_of_getElem? (i := 7) rfl⟩, fun _ h => absurd h List.not_mem_nil⟩⟩, Or.inr ⟨5, by decide +kernel, by decide, rfl⟩⟩
theorem ca_XLaw_both_0 : qCa Y_XLaw_both 5 "java/lang/IndexOutOfBoundsException" 13 2 := ⟨[], (0, 10, 13, 22), [(0, 10, 17, 24), (0, 10, 21, 13)], hd_XLaw_both, rfl, by decide, by decide, by decide, (List.mem_of_getElem? (i := 501) (by decide +kernel)), (List.mem_of_getElem? (i := 517) (by decide +kernel)), fun _ h => absurd h List.not_mem_nil, Or.inr ⟨4, by decide +kernel, by decide, rfl⟩⟩
theorem ca_XLaw_both_1 : qCa Y_XLaw_both 5 "java/lang/IllegalArgumentException" 17 2 := ⟨[(0, 10, 13, 22)], (0, 10, 17, 24), [(0, 10, 21, 13)], hd_XLaw_both, rfl, by decide, by decide, by decide, (List.mem_of_getElem? (i := 502) (by decide +kernel)), (List.mem_of_getElem? (i := 533) (by decide +kernel)), List.forall_mem_cons.mpr ⟨⟨by decide, "java/lang/IndexOutOfBoundsException", (List.mem_of_getElem? (i := 501) (by decide +kernel)), List.mem_of_getElem? (i := 3) rfl⟩, fun _ h => absurd h List.not_mem_nil⟩, Or.inr ⟨4, by decide +kernel, by decide, rfl⟩⟩
theorem ca_XLaw_both_2 : qCa Y_XLaw_both 5 "java/lang/UnsupportedOperationException" 21 2 := ⟨[(0, 10, 13, 22), (0, 10, 17, 24)], (0, 10, 21, 13), [], hd_XLaw_both, rfl, by decide, by decide, by decide, (List.mem_of_getElem? (i := 405) (by decide +kernel)), (List.mem_of_getElem? (i := 416) (by decide +kernel)), List.forall_mem_cons.mpr ⟨⟨by decide, "java/lang/IndexOutOfBoundsException", (List.mem_of_getElem? (i := 501) (by decide +kernel)), List.mem_of_getElem? (i := 6) rfl⟩, List.forall_mem_cons.mpr ⟨⟨by decide, "java/lang/IllegalArgumentException", (List.mem_of_getElem? (i := 502) (by decide +kernel)), List.mem_of_getElem? (i := 7) rfl⟩, fun _ h => absurd h List.not_mem_nil⟩⟩, Or.inr ⟨4, by decide +kernel, by decide, rfl⟩⟩
theorem ca_XLaw_choice_0 : qCa Y_XLaw_choice 7 "java/lang/IndexOutOfBoundsException" 15 2 := ⟨[], (0, 12, 15, 22), [(0, 12, 19, 24), (0, 12, 23, 13)], hd_XLaw_choice, rfl, by decide, by decide, by decide, (List.mem_of_getElem? (i := 501) (by decide +kernel)), (List.mem_of_getElem? (i := 517) (by decide +kernel)), fun _ h => absurd h List.not_mem_nil, Or.inr ⟨5, by decide +kernel, by decide, rfl⟩⟩
theorem ca_XLaw_choice_1 : qCa Y_XLaw_choice 7 "java/lang/IllegalArgumentException" 19 2 := ⟨[(0, 12, 15, 22)], (0, 12, 19, 24), [(0, 12, 23, 13)], hd_XLaw_choice, rfl, by decide, by decide, by decide, (List.mem_of_getElem? (i := 502) (by decide +kernel)), (List.mem_of_getElem? (i := 533) (by decide +kernel)), List.forall_mem_cons.mpr ⟨⟨by decide, "java/lang/IndexOutOfBoundsException", (List.mem_of_getElem? (i := 501) (by decide +kernel)), List.mem_of_getElem? (i := 3) rfl⟩, fun _ h => absurd h List.not_mem_nil⟩, Or.inr ⟨5, by decide +kernel, by decide, rfl⟩⟩
theorem ca_XLaw_choice_2 : qCa Y_XLaw_choice 7 "java/lang/UnsupportedOperationException" 23 2 := ⟨[(0, 12, 15, 22), (0, 12, 19, 24)], (0, 12, 23, 13), [], hd_XLaw_choice, rfl, by decide, by decide, by decide, (List.mem_of_getElem? (i := 405) (by decide +kernel)), (List.mem_of_getElem? (i := 416) (by decide +kernel)), List.forall_mem_cons.mpr ⟨⟨by decide, "java/lang/IndexOutOfBoundsException", (List.mem_of_getElem? (i := 501) (by decide +kernel)), List.mem_of_getElem? (i := 6) rfl⟩, List.forall_mem_cons.mpr ⟨⟨by decide, "java/lang/IllegalArgumentException", (List.mem_of_getElem? (i := 502) (by decide +kernel)), List.mem_of_getElem? (i := 7) rfl⟩, fun _ h => absurd h List.not_mem_nil⟩⟩, Or.inr ⟨5, by decide +kernel, by decide, rfl⟩⟩
theorem ca_XLaw_differs_0 : qCa Y_XLaw_differs 3 "java/lang/IllegalStateException" 11 1 := ⟨[], (0, 8, 11, 50), [], hd_XLaw_differs, rfl, by decide, by decide, by decide, (List.mem_of_getElem? (i := 658) (by decide +kernel)), (List.mem_of_getElem? (i := 665) (by decide +kernel)), fun _ h => absurd h List.not_mem_nil, Or.inl ⟨2, by decide +kernel, by decide, rfl⟩⟩
theorem ca_XLaw_equal_0 : qCa Y_XLaw_equal 5 "java/lang/IndexOutOfBoundsException" 13 2 := ⟨[], (0, 10, 13, 22), [(0, 10, 17, 24), (0, 10, 21, 13)], hd_XLaw_equal, rfl, by decide, by decide, by decide, (List.mem_of_getElem? (i := 501) (by decide +kernel)), (List.mem_of_getElem? (i := 517) (by decide +kernel)), fun _ h => absurd h List.not_mem_nil, Or.inr ⟨4, by decide +kernel, by decide, rfl⟩⟩
theorem ca_XLaw_equal_1 : qCa Y_XLaw_equal 5 "java/lang/IllegalArgumentException" 17 2 := ⟨[(0, 10, 13, 22)], (0, 10, 17, 24), [(0, 10, 21, 13)], hd_XLaw_equal, rfl, by decide, by decide, by decide, (List.mem_of_getElem? (i := 502) (by decide +kernel)), (List.mem_of_getElem? (i := 533) (by decide +kernel)), List.forall_mem_cons.mpr ⟨⟨by decide, "java/lang/IndexOutOfBoundsException", (List.mem_of_getElem? (i := 501) (by decide +kernel)), List.mem_of_getElem? (i := 3) rfl⟩, fun _ h => absurd h List.not_mem_nil⟩, Or.inr ⟨4, by decide +kernel, by decide, rfl⟩⟩
theorem ca_XLaw_equal_2 : qCa Y_XLaw_equal 5 "java/lang/UnsupportedOperationException" 21 2 := ⟨[(0, 10, 13, 22), (0, 10, 17, 24)], (0, 10, 21, 13), [], hd_XLaw_equal, rfl, by decide, by decide, by decide, (List.mem_of_getElem? (i := 405) (by decide +kernel)), (List.mem_of_getElem? (i := 416) (by decide +kernel)), List.forall_mem_cons.mpr ⟨⟨by decide, "java/lang/IndexOutOfBoundsException", (List.mem_of_getElem? (i := 501) (by decide +kernel)), List.mem_of_getElem? (i := 6) rfl⟩, List.forall_mem_cons.mpr ⟨⟨by decide, "java/lang/IllegalArgumentException", (List.mem_of_getElem? (i := 502) (by decide +kernel)), List.mem_of_getElem? (i := 7) rfl⟩, fun _ h => absurd h List.not_mem_nil⟩⟩, Or.inr ⟨4, by decide +kernel, by decide, rfl⟩⟩
theorem ca_XLaw_invariant_0 : qCa Y_XLaw_invariant 4 "java/lang/IndexOutOfBoundsException" 12 1 := ⟨[], (0, 9, 12, 22), [(0, 9, 15, 24), (0, 9, 18, 50)], hd_XLaw_invariant, rfl, by decide, by decide, by decide, (List.mem_of_getElem? (i := 501) (by decide +kernel)), (List.mem_of_getElem? (i := 517) (by decide +kernel)), fun _ h => absurd h List.not_mem_nil, Or.inl ⟨3, by decide +kernel, by decide, rfl⟩⟩
theorem ca_XLaw_invariant_1 : qCa Y_XLaw_invariant 4 "java/lang/IllegalArgumentException" 15 1 := ⟨[(0, 9, 12, 22)], (0, 9, 15, 24), [(0, 9, 18, 50)], hd_XLaw_invariant, rfl, by decide, by decide, by decide, (List.mem_of_getElem? (i := 502) (by decide +kernel)), (List.mem_of_getElem? (i := 533) (by decide +kernel)), List.forall_mem_cons.mpr ⟨⟨by decide, "java/lang/IndexOutOfBoundsException", (List.mem_of_getElem? (i := 501) (by decide +kernel)), List.mem_of_getElem? (i := 3) rfl⟩, fun _ h => absurd h List.not_mem_nil⟩, Or.inl ⟨3, by decide +kernel, by decide, rfl⟩⟩
theorem ca_XLaw_invariant_2 : qCa Y_XLaw_invariant 4 "java/lang/IllegalStateException" 18 1 := ⟨[(0, 9, 12, 22), (0, 9, 15, 24)], (0, 9, 18, 50), [], hd_XLaw_invariant, rfl, by decide, by decide, by decide, (List.mem_of_getElem? (i := 658) (by decide +kernel)), (List.mem_of_getElem? (i := 665) (by decide +kernel)), List.forall_mem_cons.mpr ⟨⟨by decide, "java/lang/IndexOutOfBoundsException", (List.mem_of_getElem? (i := 501) (by decide +kernel)), List.mem_of_getElem? (i := 9) rfl⟩, List.forall_mem_cons.mpr ⟨⟨by decide, "java/lang/IllegalArgumentException", (List.mem_of_getElem? (i := 502) (by decide +kernel)), List.mem_of_getElem? (i := 10) rfl⟩, fun _ h => absurd h List.not_mem_nil⟩⟩, Or.inl ⟨3, by decide +kernel, by decide, rfl⟩⟩
theorem ca_XLaw_kept_0 : qCa Y_XLaw_kept 4 "java/lang/IndexOutOfBoundsException" 12 1 := ⟨[], (0, 9, 12, 22), [], hd_XLaw_kept, rfl, by decide, by decide, by decide, (List.mem_of_getElem? (i := 501) (by decide +kernel)), (List.mem_of_getElem? (i := 517) (by decide +kernel)), fun _ h => absurd h List.not_mem_nil, Or.inl ⟨3, by decide +kernel, by decide, rfl⟩⟩
theorem ca_XLaw_next_0 : qCa Y_XLaw_next 5 "java/lang/IndexOutOfBoundsException" 20 2 := ⟨[], (0, 17, 20, 22), [(0, 17, 24, 24)], hd_XLaw_next, rfl, by decide, by decide, by decide, (List.mem_of_getElem? (i := 501) (by decide +kernel)), (List.mem_of_getElem? (i := 517) (by decide +kernel)), fun _ h => absurd h List.not_mem_nil, Or.inr ⟨4, by decide +kernel, by decide, rfl⟩⟩
theorem ca_XLaw_next_1 : qCa Y_XLaw_next 5 "java/lang/IllegalArgumentException" 24 2 := ⟨[(0, 17, 20, 22)], (0, 17, 24, 24), [], hd_XLaw_next, rfl, by decide, by decide, by decide, (List.mem_of_getElem? (i := 502) (by decide +kernel)), (List.mem_of_getElem? (i := 533) (by decide +kernel)), List.forall_mem_cons.mpr ⟨⟨by decide, "java/lang/IndexOutOfBoundsException", (List.mem_of_getElem? (i := 501) (by decide +kernel)), List.mem_of_getElem? (i := 3) rfl⟩, fun _ h => absurd h List.not_mem_nil⟩, Or.inr ⟨4, by decide +kernel, by decide, rfl⟩⟩
theorem ca_XLaw_node_0 : qCa Y_XLaw_node 5 "java/lang/IndexOutOfBoundsException" 13 2 := ⟨[], (0, 10, 13, 22), [], hd_XLaw_node, rfl, by decide, by decide, by decide, (List.mem_of_getElem? (i := 501) (by decide +kernel)), (List.mem_of_getElem? (i := 517) (by decide +kernel)), fun _ h => absurd h List.not_mem_nil, Or.inr ⟨4, by decide +kernel, by decide, rfl⟩⟩
theorem ca_XLaw_not_0 : qCa Y_XLaw_not 4 "java/lang/IndexOutOfBoundsException" 12 1 := ⟨[], (0, 9, 12, 22), [(0, 9, 15, 24), (0, 9, 18, 13)], hd_XLaw_not, rfl, by decide, by decide, by decide, (List.mem_of_getElem? (i := 501) (by decide +kernel)), (List.mem_of_getElem? (i := 517) (by decide +kernel)), fun _ h => absurd h List.not_mem_nil, Or.inl ⟨3, by decide +kernel, by decide, rfl⟩⟩
theorem ca_XLaw_not_1 : qCa Y_XLaw_not 4 "java/lang/IllegalArgumentException" 15 1 := ⟨[(0, 9, 12, 22)], (0, 9, 15, 24), [(0, 9, 18, 13)], hd_XLaw_not, rfl, by decide, by decide, by decide, (List.mem_of_getElem? (i := 502) (by decide +kernel)), (List.mem_of_getElem? (i := 533) (by decide +kernel)), List.forall_mem_cons.mpr ⟨⟨by decide, "java/lang/IndexOutOfBoundsException", (List.mem_of_getElem? (i := 501) (by decide +kernel)), List.mem_of_getElem? (i := 3) rfl⟩, fun _ h => absurd h List.not_mem_nil⟩, Or.inl ⟨3, by decide +kernel, by decide, rfl⟩⟩
theorem ca_XLaw_not_2 : qCa Y_XLaw_not 4 "java/lang/UnsupportedOperationException" 18 1 := ⟨[(0, 9, 12, 22), (0, 9, 15, 24)], (0, 9, 18, 13), [], hd_XLaw_not, rfl, by decide, by decide, by decide, (List.mem_of_getElem? (i := 405) (by decide +kernel)), (List.mem_of_getElem? (i := 416) (by decide +kernel)), List.forall_mem_cons.mpr ⟨⟨by decide, "java/lang/IndexOutOfBoundsException", (List.mem_of_getElem? (i := 501) (by decide +kernel)), List.mem_of_getElem? (i := 6) rfl⟩, List.forall_mem_cons.mpr ⟨⟨by decide, "java/lang/IllegalArgumentException", (List.mem_of_getElem? (i := 502) (by decide +kernel)), List.mem_of_getElem? (i := 7) rfl⟩, fun _ h => absurd h List.not_mem_nil⟩⟩, Or.inl ⟨3, by decide +kernel, by decide, rfl⟩⟩
theorem ca_XLaw_plain_0 : qCa Y_XLaw_plain 5 "java/lang/IndexOutOfBoundsException" 20 2 := ⟨[], (0, 17, 20, 22), [(0, 17, 24, 24)], hd_XLaw_plain, rfl, by decide, by decide, by decide, (List.mem_of_getElem? (i := 501) (by decide +kernel)), (List.mem_of_getElem? (i := 517) (by decide +kernel)), fun _ h => absurd h List.not_mem_nil, Or.inr ⟨4, by decide +kernel, by decide, rfl⟩⟩
theorem ca_XLaw_plain_1 : qCa Y_XLaw_plain 5 "java/lang/IllegalArgumentException" 24 2 := ⟨[(0, 17, 20, 22)], (0, 17, 24, 24), [], hd_XLaw_plain, rfl, by decide, by decide, by decide, (List.mem_of_getElem? (i := 502) (by decide +kernel)), (List.mem_of_getElem? (i := 533) (by decide +kernel)), List.forall_mem_cons.mpr ⟨⟨by decide, "java/lang/IndexOutOfBoundsException", (List.mem_of_getElem? (i := 501) (by decide +kernel)), List.mem_of_getElem? (i := 3) rfl⟩, fun _ h => absurd h List.not_mem_nil⟩, Or.inr ⟨4, by decide +kernel, by decide, rfl⟩⟩
theorem ca_XLaw_run_0 : qCa Y_XLaw_run 4 "java/lang/IllegalArgumentException" 12 1 := ⟨[], (0, 9, 12, 24), [], hd_XLaw_run, rfl, by decide, by decide, by decide, (List.mem_of_getElem? (i := 502) (by decide +kernel)), (List.mem_of_getElem? (i := 533) (by decide +kernel)), fun _ h => absurd h List.not_mem_nil, Or.inl ⟨3, by decide +kernel, by decide, rfl⟩⟩
theorem ca_XLaw_truth_0 : qCa Y_XLaw_truth 3 "java/lang/UnsupportedOperationException" 11 1 := ⟨[], (0, 8, 11, 13), [], hd_XLaw_truth, rfl, by decide, by decide, by decide, (List.mem_of_getElem? (i := 405) (by decide +kernel)), (List.mem_of_getElem? (i := 416) (by decide +kernel)), fun _ h => absurd h List.not_mem_nil, Or.inl ⟨2, by decide +kernel, by decide, rfl⟩⟩
theorem ca_XLaw_witness_0 : qCa Y_XLaw_witness 4 "java/lang/IllegalStateException" 12 1 := ⟨[], (0, 9, 12, 50), [(0, 9, 15, 22)], hd_XLaw_witness, rfl, by decide, by decide, by decide, (List.mem_of_getElem? (i := 658) (by decide +kernel)), (List.mem_of_getElem? (i := 665) (by decide +kernel)), fun _ h => absurd h List.not_mem_nil, Or.inl ⟨3, by decide +kernel, by decide, rfl⟩⟩
theorem ca_XLaw_witness_1 : qCa Y_XLaw_witness 4 "java/lang/IndexOutOfBoundsException" 15 1 := ⟨[(0, 9, 12, 50)], (0, 9, 15, 22), [], hd_XLaw_witness, rfl, by decide, by decide, by decide, (List.mem_of_getElem? (i := 501) (by decide +kernel)), (List.mem_of_getElem? (i := 517) (by decide +kernel)), List.forall_mem_cons.mpr ⟨⟨by decide, "java/lang/IllegalStateException", (List.mem_of_getElem? (i := 658) (by decide +kernel)), List.mem_of_getElem? (i := 2) rfl⟩, fun _ h => absurd h List.not_mem_nil⟩, Or.inl ⟨3, by decide +kernel, by decide, rfl⟩⟩
theorem ca_XLaw_word_0 : qCa Y_XLaw_word 3 "java/lang/UnsupportedOperationException" 11 1 := ⟨[], (0, 8, 11, 13), [], hd_XLaw_word, rfl, by decide, by decide, by decide, (List.mem_of_getElem? (i := 405) (by decide +kernel)), (List.mem_of_getElem? (i := 416) (by decide +kernel)), fun _ h => absurd h List.not_mem_nil, Or.inl ⟨2, by decide +kernel, by decide, rfl⟩⟩
end
