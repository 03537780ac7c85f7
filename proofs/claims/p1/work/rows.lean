section
-- ===== PART A: goes FIRST, ahead of the names: the tables' words, and 'selects' of the private methods out of them =====
/-- a private method of a class that the tables say can be made, by its rows of tables_1 -/
def lw_okq (q : MethodName × Nat) : Prop := (q.1.cls ≠ "java/lang/invoke/MethodHandle" ∧ q.1.cls ≠ "java/lang/invoke/VarHandle") ∧ Cond.instantiable q.1.cls q.2 ∈ tables_1 ∧ Cond.privateMethod q.1 ∈ tables_1 ∧ Cond.instanceMethod q.1 ∈ tables_1
theorem lw_p0 : lw_okq (⟨"FlushProofs$Nodes", "put", "(IIII)I"⟩, 9) := ⟨⟨by decide +kernel, by decide +kernel⟩, List.mem_of_getElem? (i := 36) (by decide +kernel), List.mem_of_getElem? (i := 96) (by decide +kernel), List.mem_of_getElem? (i := 97) (by decide +kernel)⟩
theorem lw_p1 : lw_okq (⟨"FlushProofs", "requireRoomForElement", "()V"⟩, 3) := ⟨⟨by decide +kernel, by decide +kernel⟩, List.mem_of_getElem? (i := 22) (by decide +kernel), List.mem_of_getElem? (i := 345) (by decide +kernel), List.mem_of_getElem? (i := 346) (by decide +kernel)⟩
theorem lw_p2 : lw_okq (⟨"java/lang/Throwable", "fillInStackTrace", "(I)Ljava/lang/Throwable;"⟩, 6) := ⟨⟨by decide +kernel, by decide +kernel⟩, List.mem_of_getElem? (i := 388) (by decide +kernel), List.mem_of_getElem? (i := 386) (by decide +kernel), List.mem_of_getElem? (i := 387) (by decide +kernel)⟩
theorem lw_p3 : lw_okq (⟨"FlushProofs", "requireNode", "(I)V"⟩, 3) := ⟨⟨by decide +kernel, by decide +kernel⟩, List.mem_of_getElem? (i := 22) (by decide +kernel), List.mem_of_getElem? (i := 442) (by decide +kernel), List.mem_of_getElem? (i := 443) (by decide +kernel)⟩
theorem lw_p4 : lw_okq (⟨"FlushProofs", "requireWord", "(I)V"⟩, 3) := ⟨⟨by decide +kernel, by decide +kernel⟩, List.mem_of_getElem? (i := 22) (by decide +kernel), List.mem_of_getElem? (i := 482) (by decide +kernel), List.mem_of_getElem? (i := 483) (by decide +kernel)⟩
theorem lw_p5 : lw_okq (⟨"FlushProofs", "requireTruth", "(I)V"⟩, 3) := ⟨⟨by decide +kernel, by decide +kernel⟩, List.mem_of_getElem? (i := 22) (by decide +kernel), List.mem_of_getElem? (i := 520) (by decide +kernel), List.mem_of_getElem? (i := 521) (by decide +kernel)⟩
theorem lw_p6 : lw_okq (⟨"FlushProofs", "requireSameSort", "(II)V"⟩, 3) := ⟨⟨by decide +kernel, by decide +kernel⟩, List.mem_of_getElem? (i := 22) (by decide +kernel), List.mem_of_getElem? (i := 548) (by decide +kernel), List.mem_of_getElem? (i := 549) (by decide +kernel)⟩
theorem lw_p7 : lw_okq (⟨"FlushProofs", "requireElement", "(I)V"⟩, 3) := ⟨⟨by decide +kernel, by decide +kernel⟩, List.mem_of_getElem? (i := 22) (by decide +kernel), List.mem_of_getElem? (i := 564) (by decide +kernel), List.mem_of_getElem? (i := 565) (by decide +kernel)⟩
theorem lw_p8 : lw_okq (⟨"FlushProofs", "requireNoFetch", "(I)V"⟩, 3) := ⟨⟨by decide +kernel, by decide +kernel⟩, List.mem_of_getElem? (i := 22) (by decide +kernel), List.mem_of_getElem? (i := 580) (by decide +kernel), List.mem_of_getElem? (i := 581) (by decide +kernel)⟩
theorem lw_p9 : lw_okq (⟨"FlushProofs", "makeRoom", "(I)V"⟩, 3) := ⟨⟨by decide +kernel, by decide +kernel⟩, List.mem_of_getElem? (i := 22) (by decide +kernel), List.mem_of_getElem? (i := 626) (by decide +kernel), List.mem_of_getElem? (i := 627) (by decide +kernel)⟩
theorem lw_p10 : lw_okq (⟨"FlushProofs$Prover", "begin", "(LFlushProofs$Core;)V"⟩, 7) := ⟨⟨by decide +kernel, by decide +kernel⟩, List.mem_of_getElem? (i := 185) (by decide +kernel), List.mem_of_getElem? (i := 644) (by decide +kernel), List.mem_of_getElem? (i := 645) (by decide +kernel)⟩
theorem lw_p11 : lw_okq (⟨"FlushProofs$Prover", "putIn", "(LFlushProofs$Core;[II)V"⟩, 7) := ⟨⟨by decide +kernel, by decide +kernel⟩, List.mem_of_getElem? (i := 185) (by decide +kernel), List.mem_of_getElem? (i := 655) (by decide +kernel), List.mem_of_getElem? (i := 656) (by decide +kernel)⟩
theorem lw_p12 : lw_okq (⟨"FlushProofs$Prover", "step", "(LFlushProofs$Core;[II)V"⟩, 7) := ⟨⟨by decide +kernel, by decide +kernel⟩, List.mem_of_getElem? (i := 185) (by decide +kernel), List.mem_of_getElem? (i := 675) (by decide +kernel), List.mem_of_getElem? (i := 676) (by decide +kernel)⟩
theorem lw_p13 : lw_okq (⟨"FlushProofs$Prover", "takeImages", "(LFlushProofs$Core;[I[I)V"⟩, 7) := ⟨⟨by decide +kernel, by decide +kernel⟩, List.mem_of_getElem? (i := 185) (by decide +kernel), List.mem_of_getElem? (i := 679) (by decide +kernel), List.mem_of_getElem? (i := 680) (by decide +kernel)⟩
theorem lw_p14 : lw_okq (⟨"FlushProofs$Prover", "plainStep", "(LFlushProofs$Core;[I)V"⟩, 7) := ⟨⟨by decide +kernel, by decide +kernel⟩, List.mem_of_getElem? (i := 185) (by decide +kernel), List.mem_of_getElem? (i := 683) (by decide +kernel), List.mem_of_getElem? (i := 684) (by decide +kernel)⟩
theorem lw_p15 : lw_okq (⟨"FlushProofs$Prover", "markInvariants", "()V"⟩, 7) := ⟨⟨by decide +kernel, by decide +kernel⟩, List.mem_of_getElem? (i := 185) (by decide +kernel), List.mem_of_getElem? (i := 687) (by decide +kernel), List.mem_of_getElem? (i := 688) (by decide +kernel)⟩
def lw_privs_1 : List (MethodName × Nat) := [(⟨"FlushProofs$Nodes", "put", "(IIII)I"⟩, 9), (⟨"FlushProofs", "requireRoomForElement", "()V"⟩, 3), (⟨"java/lang/Throwable", "fillInStackTrace", "(I)Ljava/lang/Throwable;"⟩, 6), (⟨"FlushProofs", "requireNode", "(I)V"⟩, 3), (⟨"FlushProofs", "requireWord", "(I)V"⟩, 3), (⟨"FlushProofs", "requireTruth", "(I)V"⟩, 3), (⟨"FlushProofs", "requireSameSort", "(II)V"⟩, 3), (⟨"FlushProofs", "requireElement", "(I)V"⟩, 3), (⟨"FlushProofs", "requireNoFetch", "(I)V"⟩, 3), (⟨"FlushProofs", "makeRoom", "(I)V"⟩, 3), (⟨"FlushProofs$Prover", "begin", "(LFlushProofs$Core;)V"⟩, 7), (⟨"FlushProofs$Prover", "putIn", "(LFlushProofs$Core;[II)V"⟩, 7), (⟨"FlushProofs$Prover", "step", "(LFlushProofs$Core;[II)V"⟩, 7), (⟨"FlushProofs$Prover", "takeImages", "(LFlushProofs$Core;[I[I)V"⟩, 7), (⟨"FlushProofs$Prover", "plainStep", "(LFlushProofs$Core;[I)V"⟩, 7), (⟨"FlushProofs$Prover", "markInvariants", "()V"⟩, 7)]
theorem lw_r1 : ∀ q ∈ lw_privs_1, lw_okq q := List.forall_mem_cons.mpr ⟨lw_p0, List.forall_mem_cons.mpr ⟨lw_p1, List.forall_mem_cons.mpr ⟨lw_p2, List.forall_mem_cons.mpr ⟨lw_p3, List.forall_mem_cons.mpr ⟨lw_p4, List.forall_mem_cons.mpr ⟨lw_p5, List.forall_mem_cons.mpr ⟨lw_p6, List.forall_mem_cons.mpr ⟨lw_p7, List.forall_mem_cons.mpr ⟨lw_p8, List.forall_mem_cons.mpr ⟨lw_p9, List.forall_mem_cons.mpr ⟨lw_p10, List.forall_mem_cons.mpr ⟨lw_p11, List.forall_mem_cons.mpr ⟨lw_p12, List.forall_mem_cons.mpr ⟨lw_p13, List.forall_mem_cons.mpr ⟨lw_p14, List.forall_mem_cons.mpr ⟨lw_p15, fun _ h => absurd h List.not_mem_nil⟩⟩⟩⟩⟩⟩⟩⟩⟩⟩⟩⟩⟩⟩⟩⟩
theorem lw_p16 : lw_okq (⟨"FlushProofs$Prover", "countDeep", "(LFlushProofs$Outcome;)V"⟩, 7) := ⟨⟨by decide +kernel, by decide +kernel⟩, List.mem_of_getElem? (i := 185) (by decide +kernel), List.mem_of_getElem? (i := 695) (by decide +kernel), List.mem_of_getElem? (i := 696) (by decide +kernel)⟩
theorem lw_p17 : lw_okq (⟨"FlushProofs$Prover", "markNeeded", "()V"⟩, 7) := ⟨⟨by decide +kernel, by decide +kernel⟩, List.mem_of_getElem? (i := 185) (by decide +kernel), List.mem_of_getElem? (i := 720) (by decide +kernel), List.mem_of_getElem? (i := 721) (by decide +kernel)⟩
theorem lw_p18 : lw_okq (⟨"FlushProofs$Search", "collect", "([Z)V"⟩, 15) := ⟨⟨by decide +kernel, by decide +kernel⟩, List.mem_of_getElem? (i := 224) (by decide +kernel), List.mem_of_getElem? (i := 728) (by decide +kernel), List.mem_of_getElem? (i := 729) (by decide +kernel)⟩
theorem lw_p19 : lw_okq (⟨"FlushProofs$Search", "collectNode", "(II)V"⟩, 15) := ⟨⟨by decide +kernel, by decide +kernel⟩, List.mem_of_getElem? (i := 224) (by decide +kernel), List.mem_of_getElem? (i := 732) (by decide +kernel), List.mem_of_getElem? (i := 733) (by decide +kernel)⟩
theorem lw_p20 : lw_okq (⟨"FlushProofs$Search", "addTruth", "(I)V"⟩, 15) := ⟨⟨by decide +kernel, by decide +kernel⟩, List.mem_of_getElem? (i := 224) (by decide +kernel), List.mem_of_getElem? (i := 736) (by decide +kernel), List.mem_of_getElem? (i := 737) (by decide +kernel)⟩
theorem lw_p21 : lw_okq (⟨"FlushProofs$Search", "addWord", "(I)V"⟩, 15) := ⟨⟨by decide +kernel, by decide +kernel⟩, List.mem_of_getElem? (i := 224) (by decide +kernel), List.mem_of_getElem? (i := 740) (by decide +kernel), List.mem_of_getElem? (i := 741) (by decide +kernel)⟩
theorem lw_p22 : lw_okq (⟨"FlushProofs$Search", "setLevels", "([Z)V"⟩, 15) := ⟨⟨by decide +kernel, by decide +kernel⟩, List.mem_of_getElem? (i := 224) (by decide +kernel), List.mem_of_getElem? (i := 744) (by decide +kernel), List.mem_of_getElem? (i := 745) (by decide +kernel)⟩
theorem lw_p23 : lw_okq (⟨"FlushProofs$Search", "levelOfParts", "(I)I"⟩, 15) := ⟨⟨by decide +kernel, by decide +kernel⟩, List.mem_of_getElem? (i := 224) (by decide +kernel), List.mem_of_getElem? (i := 748) (by decide +kernel), List.mem_of_getElem? (i := 749) (by decide +kernel)⟩
theorem lw_p24 : lw_okq (⟨"FlushProofs$Search", "levelOf", "(I)I"⟩, 15) := ⟨⟨by decide +kernel, by decide +kernel⟩, List.mem_of_getElem? (i := 224) (by decide +kernel), List.mem_of_getElem? (i := 752) (by decide +kernel), List.mem_of_getElem? (i := 753) (by decide +kernel)⟩
theorem lw_p25 : lw_okq (⟨"FlushProofs$Search", "arrange", "([Z)V"⟩, 15) := ⟨⟨by decide +kernel, by decide +kernel⟩, List.mem_of_getElem? (i := 224) (by decide +kernel), List.mem_of_getElem? (i := 757) (by decide +kernel), List.mem_of_getElem? (i := 758) (by decide +kernel)⟩
theorem lw_p26 : lw_okq (⟨"FlushProofs$Search", "setTruths", "()V"⟩, 15) := ⟨⟨by decide +kernel, by decide +kernel⟩, List.mem_of_getElem? (i := 224) (by decide +kernel), List.mem_of_getElem? (i := 762) (by decide +kernel), List.mem_of_getElem? (i := 763) (by decide +kernel)⟩
theorem lw_p27 : lw_okq (⟨"FlushProofs$Search", "reckonLevel", "(I)V"⟩, 15) := ⟨⟨by decide +kernel, by decide +kernel⟩, List.mem_of_getElem? (i := 224) (by decide +kernel), List.mem_of_getElem? (i := 773) (by decide +kernel), List.mem_of_getElem? (i := 774) (by decide +kernel)⟩
theorem lw_p28 : lw_okq (⟨"FlushProofs$Planes", "choose", "(IJII)V"⟩, 4) := ⟨⟨by decide +kernel, by decide +kernel⟩, List.mem_of_getElem? (i := 230) (by decide +kernel), List.mem_of_getElem? (i := 786) (by decide +kernel), List.mem_of_getElem? (i := 787) (by decide +kernel)⟩
theorem lw_p29 : lw_okq (⟨"FlushProofs$Search", "withInvariants", "(IJ)J"⟩, 15) := ⟨⟨by decide +kernel, by decide +kernel⟩, List.mem_of_getElem? (i := 224) (by decide +kernel), List.mem_of_getElem? (i := 793) (by decide +kernel), List.mem_of_getElem? (i := 794) (by decide +kernel)⟩
theorem lw_p30 : lw_okq (⟨"FlushProofs$Search", "giveNumbers", "(IIJ)V"⟩, 15) := ⟨⟨by decide +kernel, by decide +kernel⟩, List.mem_of_getElem? (i := 224) (by decide +kernel), List.mem_of_getElem? (i := 801) (by decide +kernel), List.mem_of_getElem? (i := 802) (by decide +kernel)⟩
theorem lw_p31 : lw_okq (⟨"FlushProofs$Search", "look", "(J)V"⟩, 15) := ⟨⟨by decide +kernel, by decide +kernel⟩, List.mem_of_getElem? (i := 224) (by decide +kernel), List.mem_of_getElem? (i := 805) (by decide +kernel), List.mem_of_getElem? (i := 806) (by decide +kernel)⟩
def lw_privs_2 : List (MethodName × Nat) := [(⟨"FlushProofs$Prover", "countDeep", "(LFlushProofs$Outcome;)V"⟩, 7), (⟨"FlushProofs$Prover", "markNeeded", "()V"⟩, 7), (⟨"FlushProofs$Search", "collect", "([Z)V"⟩, 15), (⟨"FlushProofs$Search", "collectNode", "(II)V"⟩, 15), (⟨"FlushProofs$Search", "addTruth", "(I)V"⟩, 15), (⟨"FlushProofs$Search", "addWord", "(I)V"⟩, 15), (⟨"FlushProofs$Search", "setLevels", "([Z)V"⟩, 15), (⟨"FlushProofs$Search", "levelOfParts", "(I)I"⟩, 15), (⟨"FlushProofs$Search", "levelOf", "(I)I"⟩, 15), (⟨"FlushProofs$Search", "arrange", "([Z)V"⟩, 15), (⟨"FlushProofs$Search", "setTruths", "()V"⟩, 15), (⟨"FlushProofs$Search", "reckonLevel", "(I)V"⟩, 15), (⟨"FlushProofs$Planes", "choose", "(IJII)V"⟩, 4), (⟨"FlushProofs$Search", "withInvariants", "(IJ)J"⟩, 15), (⟨"FlushProofs$Search", "giveNumbers", "(IIJ)V"⟩, 15), (⟨"FlushProofs$Search", "look", "(J)V"⟩, 15)]
theorem lw_r2 : ∀ q ∈ lw_privs_2, lw_okq q := List.forall_mem_cons.mpr ⟨lw_p16, List.forall_mem_cons.mpr ⟨lw_p17, List.forall_mem_cons.mpr ⟨lw_p18, List.forall_mem_cons.mpr ⟨lw_p19, List.forall_mem_cons.mpr ⟨lw_p20, List.forall_mem_cons.mpr ⟨lw_p21, List.forall_mem_cons.mpr ⟨lw_p22, List.forall_mem_cons.mpr ⟨lw_p23, List.forall_mem_cons.mpr ⟨lw_p24, List.forall_mem_cons.mpr ⟨lw_p25, List.forall_mem_cons.mpr ⟨lw_p26, List.forall_mem_cons.mpr ⟨lw_p27, List.forall_mem_cons.mpr ⟨lw_p28, List.forall_mem_cons.mpr ⟨lw_p29, List.forall_mem_cons.mpr ⟨lw_p30, List.forall_mem_cons.mpr ⟨lw_p31, fun _ h => absurd h List.not_mem_nil⟩⟩⟩⟩⟩⟩⟩⟩⟩⟩⟩⟩⟩⟩⟩⟩
theorem lw_p32 : lw_okq (⟨"FlushProofs$Search", "lowestClaim", "(I)I"⟩, 15) := ⟨⟨by decide +kernel, by decide +kernel⟩, List.mem_of_getElem? (i := 224) (by decide +kernel), List.mem_of_getElem? (i := 815) (by decide +kernel), List.mem_of_getElem? (i := 816) (by decide +kernel)⟩
theorem lw_p33 : lw_okq (⟨"FlushProofs$Search", "statesOfUse", "(I)J"⟩, 15) := ⟨⟨by decide +kernel, by decide +kernel⟩, List.mem_of_getElem? (i := 224) (by decide +kernel), List.mem_of_getElem? (i := 822) (by decide +kernel), List.mem_of_getElem? (i := 823) (by decide +kernel)⟩
theorem lw_p34 : lw_okq (⟨"FlushProofs$Search", "withFunctions", "(IIJ)J"⟩, 15) := ⟨⟨by decide +kernel, by decide +kernel⟩, List.mem_of_getElem? (i := 224) (by decide +kernel), List.mem_of_getElem? (i := 826) (by decide +kernel), List.mem_of_getElem? (i := 827) (by decide +kernel)⟩
theorem lw_p35 : lw_okq (⟨"FlushProofs$Search", "sameArguments", "(II)J"⟩, 15) := ⟨⟨by decide +kernel, by decide +kernel⟩, List.mem_of_getElem? (i := 224) (by decide +kernel), List.mem_of_getElem? (i := 830) (by decide +kernel), List.mem_of_getElem? (i := 831) (by decide +kernel)⟩
theorem lw_p36 : lw_okq (⟨"FlushProofs", "requireFailure", "()V"⟩, 3) := ⟨⟨by decide +kernel, by decide +kernel⟩, List.mem_of_getElem? (i := 22) (by decide +kernel), List.mem_of_getElem? (i := 863) (by decide +kernel), List.mem_of_getElem? (i := 864) (by decide +kernel)⟩
theorem lw_p37 : lw_okq (⟨"FlushProofsModel", "begin", "()V"⟩, 36) := ⟨⟨by decide +kernel, by decide +kernel⟩, List.mem_of_getElem? (i := 884) (by decide +kernel), List.mem_of_getElem? (i := 890) (by decide +kernel), List.mem_of_getElem? (i := 891) (by decide +kernel)⟩
theorem lw_p38 : lw_okq (⟨"FlushProofsModel", "link", "(I)V"⟩, 36) := ⟨⟨by decide +kernel, by decide +kernel⟩, List.mem_of_getElem? (i := 884) (by decide +kernel), List.mem_of_getElem? (i := 894) (by decide +kernel), List.mem_of_getElem? (i := 895) (by decide +kernel)⟩
theorem lw_p39 : lw_okq (⟨"FlushProofsModel", "addElement", "(I)I"⟩, 36) := ⟨⟨by decide +kernel, by decide +kernel⟩, List.mem_of_getElem? (i := 884) (by decide +kernel), List.mem_of_getElem? (i := 1019) (by decide +kernel), List.mem_of_getElem? (i := 1020) (by decide +kernel)⟩
theorem lw_p40 : lw_okq (⟨"FlushProofsModel", "fail", "(I)I"⟩, 36) := ⟨⟨by decide +kernel, by decide +kernel⟩, List.mem_of_getElem? (i := 884) (by decide +kernel), List.mem_of_getElem? (i := 1023) (by decide +kernel), List.mem_of_getElem? (i := 1024) (by decide +kernel)⟩
theorem lw_p41 : lw_okq (⟨"FlushProofsModel", "add", "(IIII)I"⟩, 36) := ⟨⟨by decide +kernel, by decide +kernel⟩, List.mem_of_getElem? (i := 884) (by decide +kernel), List.mem_of_getElem? (i := 1027) (by decide +kernel), List.mem_of_getElem? (i := 1028) (by decide +kernel)⟩
theorem lw_p42 : lw_okq (⟨"FlushProofsModel", "isNode", "(I)Z"⟩, 36) := ⟨⟨by decide +kernel, by decide +kernel⟩, List.mem_of_getElem? (i := 884) (by decide +kernel), List.mem_of_getElem? (i := 1039) (by decide +kernel), List.mem_of_getElem? (i := 1040) (by decide +kernel)⟩
theorem lw_p43 : lw_okq (⟨"FlushProofsModel", "isWord", "(I)Z"⟩, 36) := ⟨⟨by decide +kernel, by decide +kernel⟩, List.mem_of_getElem? (i := 884) (by decide +kernel), List.mem_of_getElem? (i := 1046) (by decide +kernel), List.mem_of_getElem? (i := 1047) (by decide +kernel)⟩
theorem lw_p44 : lw_okq (⟨"FlushProofsModel", "told", "(IIIII)I"⟩, 36) := ⟨⟨by decide +kernel, by decide +kernel⟩, List.mem_of_getElem? (i := 884) (by decide +kernel), List.mem_of_getElem? (i := 1050) (by decide +kernel), List.mem_of_getElem? (i := 1051) (by decide +kernel)⟩
theorem lw_p45 : lw_okq (⟨"FlushProofsModel", "plainest", "(IIII)I"⟩, 36) := ⟨⟨by decide +kernel, by decide +kernel⟩, List.mem_of_getElem? (i := 884) (by decide +kernel), List.mem_of_getElem? (i := 1054) (by decide +kernel), List.mem_of_getElem? (i := 1055) (by decide +kernel)⟩
theorem lw_p46 : lw_okq (⟨"FlushProofsModel", "find", "(IIII)I"⟩, 36) := ⟨⟨by decide +kernel, by decide +kernel⟩, List.mem_of_getElem? (i := 884) (by decide +kernel), List.mem_of_getElem? (i := 1058) (by decide +kernel), List.mem_of_getElem? (i := 1059) (by decide +kernel)⟩
theorem lw_p47 : lw_okq (⟨"FlushProofsModel", "isElement", "(I)Z"⟩, 36) := ⟨⟨by decide +kernel, by decide +kernel⟩, List.mem_of_getElem? (i := 884) (by decide +kernel), List.mem_of_getElem? (i := 1082) (by decide +kernel), List.mem_of_getElem? (i := 1083) (by decide +kernel)⟩
def lw_privs_3 : List (MethodName × Nat) := [(⟨"FlushProofs$Search", "lowestClaim", "(I)I"⟩, 15), (⟨"FlushProofs$Search", "statesOfUse", "(I)J"⟩, 15), (⟨"FlushProofs$Search", "withFunctions", "(IIJ)J"⟩, 15), (⟨"FlushProofs$Search", "sameArguments", "(II)J"⟩, 15), (⟨"FlushProofs", "requireFailure", "()V"⟩, 3), (⟨"FlushProofsModel", "begin", "()V"⟩, 36), (⟨"FlushProofsModel", "link", "(I)V"⟩, 36), (⟨"FlushProofsModel", "addElement", "(I)I"⟩, 36), (⟨"FlushProofsModel", "fail", "(I)I"⟩, 36), (⟨"FlushProofsModel", "add", "(IIII)I"⟩, 36), (⟨"FlushProofsModel", "isNode", "(I)Z"⟩, 36), (⟨"FlushProofsModel", "isWord", "(I)Z"⟩, 36), (⟨"FlushProofsModel", "told", "(IIIII)I"⟩, 36), (⟨"FlushProofsModel", "plainest", "(IIII)I"⟩, 36), (⟨"FlushProofsModel", "find", "(IIII)I"⟩, 36), (⟨"FlushProofsModel", "isElement", "(I)Z"⟩, 36)]
theorem lw_r3 : ∀ q ∈ lw_privs_3, lw_okq q := List.forall_mem_cons.mpr ⟨lw_p32, List.forall_mem_cons.mpr ⟨lw_p33, List.forall_mem_cons.mpr ⟨lw_p34, List.forall_mem_cons.mpr ⟨lw_p35, List.forall_mem_cons.mpr ⟨lw_p36, List.forall_mem_cons.mpr ⟨lw_p37, List.forall_mem_cons.mpr ⟨lw_p38, List.forall_mem_cons.mpr ⟨lw_p39, List.forall_mem_cons.mpr ⟨lw_p40, List.forall_mem_cons.mpr ⟨lw_p41, List.forall_mem_cons.mpr ⟨lw_p42, List.forall_mem_cons.mpr ⟨lw_p43, List.forall_mem_cons.mpr ⟨lw_p44, List.forall_mem_cons.mpr ⟨lw_p45, List.forall_mem_cons.mpr ⟨lw_p46, List.forall_mem_cons.mpr ⟨lw_p47, fun _ h => absurd h List.not_mem_nil⟩⟩⟩⟩⟩⟩⟩⟩⟩⟩⟩⟩⟩⟩⟩⟩
theorem lw_p48 : lw_okq (⟨"FlushProofsModel", "isOfSort", "(II)Z"⟩, 36) := ⟨⟨by decide +kernel, by decide +kernel⟩, List.mem_of_getElem? (i := 884) (by decide +kernel), List.mem_of_getElem? (i := 1086) (by decide +kernel), List.mem_of_getElem? (i := 1087) (by decide +kernel)⟩
theorem lw_p49 : lw_okq (⟨"FlushProofsModel", "hasFetch", "(I)Z"⟩, 36) := ⟨⟨by decide +kernel, by decide +kernel⟩, List.mem_of_getElem? (i := 884) (by decide +kernel), List.mem_of_getElem? (i := 1094) (by decide +kernel), List.mem_of_getElem? (i := 1095) (by decide +kernel)⟩
theorem lw_p50 : lw_okq (⟨"FlushProofsModel", "unmark", "()V"⟩, 36) := ⟨⟨by decide +kernel, by decide +kernel⟩, List.mem_of_getElem? (i := 884) (by decide +kernel), List.mem_of_getElem? (i := 1098) (by decide +kernel), List.mem_of_getElem? (i := 1099) (by decide +kernel)⟩
theorem lw_p51 : lw_okq (⟨"FlushProofsModel", "mark", "(I)V"⟩, 36) := ⟨⟨by decide +kernel, by decide +kernel⟩, List.mem_of_getElem? (i := 884) (by decide +kernel), List.mem_of_getElem? (i := 1102) (by decide +kernel), List.mem_of_getElem? (i := 1103) (by decide +kernel)⟩
theorem lw_p52 : lw_okq (⟨"FlushProofsModel", "markParts", "()V"⟩, 36) := ⟨⟨by decide +kernel, by decide +kernel⟩, List.mem_of_getElem? (i := 884) (by decide +kernel), List.mem_of_getElem? (i := 1106) (by decide +kernel), List.mem_of_getElem? (i := 1107) (by decide +kernel)⟩
theorem lw_p53 : lw_okq (⟨"FlushProofsModel", "beginState", "()V"⟩, 36) := ⟨⟨by decide +kernel, by decide +kernel⟩, List.mem_of_getElem? (i := 884) (by decide +kernel), List.mem_of_getElem? (i := 1118) (by decide +kernel), List.mem_of_getElem? (i := 1119) (by decide +kernel)⟩
theorem lw_p54 : lw_okq (⟨"FlushProofsModel", "step", "(I)V"⟩, 36) := ⟨⟨by decide +kernel, by decide +kernel⟩, List.mem_of_getElem? (i := 884) (by decide +kernel), List.mem_of_getElem? (i := 1122) (by decide +kernel), List.mem_of_getElem? (i := 1123) (by decide +kernel)⟩
theorem lw_p55 : lw_okq (⟨"FlushProofsModel", "putIn", "(I)V"⟩, 36) := ⟨⟨by decide +kernel, by decide +kernel⟩, List.mem_of_getElem? (i := 884) (by decide +kernel), List.mem_of_getElem? (i := 1126) (by decide +kernel), List.mem_of_getElem? (i := 1127) (by decide +kernel)⟩
theorem lw_p56 : lw_okq (⟨"FlushProofsModel", "make", "(IIII)I"⟩, 36) := ⟨⟨by decide +kernel, by decide +kernel⟩, List.mem_of_getElem? (i := 884) (by decide +kernel), List.mem_of_getElem? (i := 1130) (by decide +kernel), List.mem_of_getElem? (i := 1131) (by decide +kernel)⟩
theorem lw_p57 : lw_okq (⟨"FlushProofsModel", "get", "(IIII)I"⟩, 36) := ⟨⟨by decide +kernel, by decide +kernel⟩, List.mem_of_getElem? (i := 884) (by decide +kernel), List.mem_of_getElem? (i := 1134) (by decide +kernel), List.mem_of_getElem? (i := 1135) (by decide +kernel)⟩
theorem lw_p58 : lw_okq (⟨"FlushProofsModel", "ask", "(I)I"⟩, 36) := ⟨⟨by decide +kernel, by decide +kernel⟩, List.mem_of_getElem? (i := 884) (by decide +kernel), List.mem_of_getElem? (i := 1138) (by decide +kernel), List.mem_of_getElem? (i := 1139) (by decide +kernel)⟩
theorem lw_p59 : lw_okq (⟨"FlushProofsModel", "gather", "()V"⟩, 36) := ⟨⟨by decide +kernel, by decide +kernel⟩, List.mem_of_getElem? (i := 884) (by decide +kernel), List.mem_of_getElem? (i := 1142) (by decide +kernel), List.mem_of_getElem? (i := 1143) (by decide +kernel)⟩
theorem lw_p60 : lw_okq (⟨"FlushProofsModel", "failsWith", "(I)I"⟩, 36) := ⟨⟨by decide +kernel, by decide +kernel⟩, List.mem_of_getElem? (i := 884) (by decide +kernel), List.mem_of_getElem? (i := 1146) (by decide +kernel), List.mem_of_getElem? (i := 1147) (by decide +kernel)⟩
theorem lw_p61 : lw_okq (⟨"FlushProofsModel", "work", "()V"⟩, 36) := ⟨⟨by decide +kernel, by decide +kernel⟩, List.mem_of_getElem? (i := 884) (by decide +kernel), List.mem_of_getElem? (i := 1150) (by decide +kernel), List.mem_of_getElem? (i := 1151) (by decide +kernel)⟩
theorem lw_p62 : lw_okq (⟨"FlushProofsModel", "areFunctions", "()Z"⟩, 36) := ⟨⟨by decide +kernel, by decide +kernel⟩, List.mem_of_getElem? (i := 884) (by decide +kernel), List.mem_of_getElem? (i := 1154) (by decide +kernel), List.mem_of_getElem? (i := 1155) (by decide +kernel)⟩
theorem lw_p63 : lw_okq (⟨"FlushProofsModel", "failing", "(I)I"⟩, 36) := ⟨⟨by decide +kernel, by decide +kernel⟩, List.mem_of_getElem? (i := 884) (by decide +kernel), List.mem_of_getElem? (i := 1158) (by decide +kernel), List.mem_of_getElem? (i := 1159) (by decide +kernel)⟩
def lw_privs_4 : List (MethodName × Nat) := [(⟨"FlushProofsModel", "isOfSort", "(II)Z"⟩, 36), (⟨"FlushProofsModel", "hasFetch", "(I)Z"⟩, 36), (⟨"FlushProofsModel", "unmark", "()V"⟩, 36), (⟨"FlushProofsModel", "mark", "(I)V"⟩, 36), (⟨"FlushProofsModel", "markParts", "()V"⟩, 36), (⟨"FlushProofsModel", "beginState", "()V"⟩, 36), (⟨"FlushProofsModel", "step", "(I)V"⟩, 36), (⟨"FlushProofsModel", "putIn", "(I)V"⟩, 36), (⟨"FlushProofsModel", "make", "(IIII)I"⟩, 36), (⟨"FlushProofsModel", "get", "(IIII)I"⟩, 36), (⟨"FlushProofsModel", "ask", "(I)I"⟩, 36), (⟨"FlushProofsModel", "gather", "()V"⟩, 36), (⟨"FlushProofsModel", "failsWith", "(I)I"⟩, 36), (⟨"FlushProofsModel", "work", "()V"⟩, 36), (⟨"FlushProofsModel", "areFunctions", "()Z"⟩, 36), (⟨"FlushProofsModel", "failing", "(I)I"⟩, 36)]
theorem lw_r4 : ∀ q ∈ lw_privs_4, lw_okq q := List.forall_mem_cons.mpr ⟨lw_p48, List.forall_mem_cons.mpr ⟨lw_p49, List.forall_mem_cons.mpr ⟨lw_p50, List.forall_mem_cons.mpr ⟨lw_p51, List.forall_mem_cons.mpr ⟨lw_p52, List.forall_mem_cons.mpr ⟨lw_p53, List.forall_mem_cons.mpr ⟨lw_p54, List.forall_mem_cons.mpr ⟨lw_p55, List.forall_mem_cons.mpr ⟨lw_p56, List.forall_mem_cons.mpr ⟨lw_p57, List.forall_mem_cons.mpr ⟨lw_p58, List.forall_mem_cons.mpr ⟨lw_p59, List.forall_mem_cons.mpr ⟨lw_p60, List.forall_mem_cons.mpr ⟨lw_p61, List.forall_mem_cons.mpr ⟨lw_p62, List.forall_mem_cons.mpr ⟨lw_p63, fun _ h => absurd h List.not_mem_nil⟩⟩⟩⟩⟩⟩⟩⟩⟩⟩⟩⟩⟩⟩⟩⟩
theorem lw_p64 : lw_okq (⟨"FlushProofsModel", "goesOn", "(II)Z"⟩, 36) := ⟨⟨by decide +kernel, by decide +kernel⟩, List.mem_of_getElem? (i := 884) (by decide +kernel), List.mem_of_getElem? (i := 1162) (by decide +kernel), List.mem_of_getElem? (i := 1163) (by decide +kernel)⟩
theorem lw_p65 : lw_okq (⟨"FlushProofsModel", "keepState", "(I)V"⟩, 36) := ⟨⟨by decide +kernel, by decide +kernel⟩, List.mem_of_getElem? (i := 884) (by decide +kernel), List.mem_of_getElem? (i := 1166) (by decide +kernel), List.mem_of_getElem? (i := 1167) (by decide +kernel)⟩
def lw_privs_5 : List (MethodName × Nat) := [(⟨"FlushProofsModel", "goesOn", "(II)Z"⟩, 36), (⟨"FlushProofsModel", "keepState", "(I)V"⟩, 36)]
theorem lw_r5 : ∀ q ∈ lw_privs_5, lw_okq q := List.forall_mem_cons.mpr ⟨lw_p64, List.forall_mem_cons.mpr ⟨lw_p65, fun _ h => absurd h List.not_mem_nil⟩⟩
def lw_privs : List (MethodName × Nat) := lw_privs_1 ++ (lw_privs_2 ++ (lw_privs_3 ++ (lw_privs_4 ++ (lw_privs_5))))
def lw_tbl : List Cond := k2_sels lw_privs ++ tables_1
theorem lw_privs_ok : ∀ q ∈ lw_privs, lw_okq q := by
  show ∀ q ∈ lw_privs_1 ++ (lw_privs_2 ++ (lw_privs_3 ++ (lw_privs_4 ++ (lw_privs_5)))), lw_okq q
  exact List.forall_mem_append.mpr ⟨lw_r1, List.forall_mem_append.mpr ⟨lw_r2, List.forall_mem_append.mpr ⟨lw_r3, List.forall_mem_append.mpr ⟨lw_r4, lw_r5⟩⟩⟩⟩
end
section
/-! WHAT THE TABLES SAY, as the pure machine needs it (written by program) -/
abbrev qG : Type := Nat × va_G × (ClassId × ClassId × ClassId) × (Nat × Nat × (Nat → Int32)) × Nat
abbrev qT (g : qG) : List (ClassId × FieldType) := [(g.2.2.1.1, .int), (g.2.2.1.2.1, .boolean), (g.2.2.1.2.2, .long)]
abbrev qA (g : qG) : Nat → Prop := fun q => g.1 ≤ q
abbrev qY : Type := MethodName × ByteArray × Nat × Option FieldType
def qU0 : u_T := fun k => match k with
  | 0 => ("FlushProofs", "core", "LFlushProofs$Core;", true)
  | 1 => ("FlushProofs", "outcome", "LFlushProofs$Outcome;", true)
  | _ => ("FlushProofs", "prover", "LFlushProofs$Prover;", false)
def qV0 : Nat → FieldType := fun k => match k with
  | 0 => .object "FlushProofs$Core"
  | 1 => .object "FlushProofs$Outcome"
  | _ => .object "FlushProofs$Prover"
def qU1 : u_T := fun k => match k with
  | 0 => ("FlushProofs$Core", "nodes", "LFlushProofs$Nodes;", true)
  | 1 => ("FlushProofs$Core", "elementNodes", "[I", true)
  | 2 => ("FlushProofs$Core", "nextNodes", "[I", true)
  | 3 => ("FlushProofs$Core", "plainNodes", "[I", true)
  | 4 => ("FlushProofs$Core", "invariants", "[I", true)
  | 5 => ("FlushProofs$Core", "elementCount", "I", false)
  | 6 => ("FlushProofs$Core", "seenCount", "I", false)
  | _ => ("FlushProofs$Core", "invariantCount", "I", false)
def qV1 : Nat → FieldType := fun k => match k with
  | 0 => .object "FlushProofs$Nodes"
  | 1 => .array .int
  | 2 => .array .int
  | 3 => .array .int
  | 4 => .array .int
  | 5 => .int
  | 6 => .int
  | _ => .int
def qU2 : u_T := fun k => match k with
  | 0 => ("FlushProofs$Nodes", "kinds", "[I", true)
  | 1 => ("FlushProofs$Nodes", "firsts", "[I", true)
  | 2 => ("FlushProofs$Nodes", "seconds", "[I", true)
  | 3 => ("FlushProofs$Nodes", "thirds", "[I", true)
  | 4 => ("FlushProofs$Nodes", "words", "[Z", true)
  | 5 => ("FlushProofs$Nodes", "fetches", "[Z", true)
  | 6 => ("FlushProofs$Nodes", "heads", "[I", true)
  | 7 => ("FlushProofs$Nodes", "links", "[I", true)
  | _ => ("FlushProofs$Nodes", "used", "I", false)
def qV2 : Nat → FieldType := fun k => match k with
  | 0 => .array .int
  | 1 => .array .int
  | 2 => .array .int
  | 3 => .array .int
  | 4 => .array .boolean
  | 5 => .array .boolean
  | 6 => .array .int
  | 7 => .array .int
  | _ => .int
def qU3 : u_T := fun k => match k with
  | 0 => ("FlushProofs$Outcome", "values", "[I", true)
  | 1 => ("FlushProofs$Outcome", "answer", "I", false)
  | 2 => ("FlushProofs$Outcome", "elementCount", "I", false)
  | 3 => ("FlushProofs$Outcome", "fetch", "I", false)
  | 4 => ("FlushProofs$Outcome", "differing", "I", false)
  | 5 => ("FlushProofs$Outcome", "deepWords", "I", false)
  | _ => ("FlushProofs$Outcome", "deepTruths", "I", false)
def qV3 : Nat → FieldType := fun k => match k with
  | 0 => .array .int
  | 1 => .int
  | 2 => .int
  | 3 => .int
  | 4 => .int
  | 5 => .int
  | _ => .int
def qU4 : u_T := fun k => match k with
  | 0 => ("FlushProofs$Planes", "work", "LFlushProofs$Nodes;", true)
  | 1 => ("FlushProofs$Planes", "lows", "[J", true)
  | 2 => ("FlushProofs$Planes", "mids", "[J", true)
  | _ => ("FlushProofs$Planes", "highs", "[J", true)
def qV4 : Nat → FieldType := fun k => match k with
  | 0 => .object "FlushProofs$Nodes"
  | 1 => .array .long
  | 2 => .array .long
  | _ => .array .long
def qU5 : u_T := fun k => match k with
  | 0 => ("FlushProofs$Prover", "work", "LFlushProofs$Nodes;", true)
  | 1 => ("FlushProofs$Prover", "question", "LFlushProofs$Question;", true)
  | 2 => ("FlushProofs$Prover", "search", "LFlushProofs$Search;", true)
  | 3 => ("FlushProofs$Prover", "marks", "[Z", true)
  | 4 => ("FlushProofs$Prover", "images", "[I", true)
  | 5 => ("FlushProofs$Prover", "oneWay", "[I", true)
  | _ => ("FlushProofs$Prover", "otherWay", "[I", true)
def qV5 : Nat → FieldType := fun k => match k with
  | 0 => .object "FlushProofs$Nodes"
  | 1 => .object "FlushProofs$Question"
  | 2 => .object "FlushProofs$Search"
  | 3 => .array .boolean
  | 4 => .array .int
  | 5 => .array .int
  | _ => .array .int
def qU6 : u_T := fun k => match k with
  | 0 => ("FlushProofs$Question", "invariants", "[I", true)
  | 1 => ("FlushProofs$Question", "claims", "[I", true)
  | 2 => ("FlushProofs$Question", "claimElements", "[I", true)
  | 3 => ("FlushProofs$Question", "invariantCount", "I", false)
  | _ => ("FlushProofs$Question", "claimCount", "I", false)
def qV6 : Nat → FieldType := fun k => match k with
  | 0 => .array .int
  | 1 => .array .int
  | 2 => .array .int
  | 3 => .int
  | _ => .int
def qU7 : u_T := fun k => match k with
  | 0 => ("FlushProofs$Search", "work", "LFlushProofs$Nodes;", true)
  | 1 => ("FlushProofs$Search", "question", "LFlushProofs$Question;", true)
  | 2 => ("FlushProofs$Search", "planes", "LFlushProofs$Planes;", true)
  | 3 => ("FlushProofs$Search", "truths", "[I", true)
  | 4 => ("FlushProofs$Search", "words", "[I", true)
  | 5 => ("FlushProofs$Search", "values", "[I", true)
  | 6 => ("FlushProofs$Search", "levels", "[I", true)
  | 7 => ("FlushProofs$Search", "order", "[I", true)
  | 8 => ("FlushProofs$Search", "starts", "[I", true)
  | 9 => ("FlushProofs$Search", "leastValues", "[I", true)
  | 10 => ("FlushProofs$Search", "truthCount", "I", false)
  | 11 => ("FlushProofs$Search", "wordCount", "I", false)
  | 12 => ("FlushProofs$Search", "wordElementCount", "I", false)
  | 13 => ("FlushProofs$Search", "leastIndex", "I", false)
  | _ => ("FlushProofs$Search", "leastClaim", "I", false)
def qV7 : Nat → FieldType := fun k => match k with
  | 0 => .object "FlushProofs$Nodes"
  | 1 => .object "FlushProofs$Question"
  | 2 => .object "FlushProofs$Planes"
  | 3 => .array .int
  | 4 => .array .int
  | 5 => .array .int
  | 6 => .array .int
  | 7 => .array .int
  | 8 => .array .int
  | 9 => .array .int
  | 10 => .int
  | 11 => .int
  | 12 => .int
  | 13 => .int
  | _ => .int
def qU8 : u_T := fun k => match k with
  | 0 => ("FlushProofsModel", "thrown", "I", false)
  | 1 => ("FlushProofsModel", "nodes", "I", false)
  | 2 => ("FlushProofsModel", "all", "I", false)
  | 3 => ("FlushProofsModel", "kind", "[I", true)
  | 4 => ("FlushProofsModel", "one", "[I", true)
  | 5 => ("FlushProofsModel", "two", "[I", true)
  | 6 => ("FlushProofsModel", "three", "[I", true)
  | 7 => ("FlushProofsModel", "chain", "[I", true)
  | 8 => ("FlushProofsModel", "behind", "[I", true)
  | 9 => ("FlushProofsModel", "elements", "I", false)
  | 10 => ("FlushProofsModel", "invariants", "I", false)
  | 11 => ("FlushProofsModel", "element", "[I", true)
  | 12 => ("FlushProofsModel", "next", "[I", true)
  | 13 => ("FlushProofsModel", "hasNext", "[Z", true)
  | 14 => ("FlushProofsModel", "plain", "[I", true)
  | 15 => ("FlushProofsModel", "seen", "[Z", true)
  | 16 => ("FlushProofsModel", "invariant", "[I", true)
  | 17 => ("FlushProofsModel", "made", "[I", true)
  | 18 => ("FlushProofsModel", "state", "[I", true)
  | 19 => ("FlushProofsModel", "oneWay", "[I", true)
  | 20 => ("FlushProofsModel", "otherWay", "[I", true)
  | 21 => ("FlushProofsModel", "deep", "[Z", true)
  | 22 => ("FlushProofsModel", "value", "[I", true)
  | 23 => ("FlushProofsModel", "words", "I", false)
  | 24 => ("FlushProofsModel", "applications", "I", false)
  | 25 => ("FlushProofsModel", "truths", "I", false)
  | 26 => ("FlushProofsModel", "wordNode", "[I", true)
  | 27 => ("FlushProofsModel", "fall", "[I", true)
  | 28 => ("FlushProofsModel", "truthNode", "[I", true)
  | 29 => ("FlushProofsModel", "deepWords", "I", false)
  | 30 => ("FlushProofsModel", "deepTruths", "I", false)
  | 31 => ("FlushProofsModel", "isAnswered", "Z", false)
  | 32 => ("FlushProofsModel", "witness", "[I", true)
  | 33 => ("FlushProofsModel", "fetchThere", "I", false)
  | 34 => ("FlushProofsModel", "differs", "I", false)
  | _ => ("FlushProofsModel", "answeredElements", "I", false)
def qV8 : Nat → FieldType := fun k => match k with
  | 0 => .int
  | 1 => .int
  | 2 => .int
  | 3 => .array .int
  | 4 => .array .int
  | 5 => .array .int
  | 6 => .array .int
  | 7 => .array .int
  | 8 => .array .int
  | 9 => .int
  | 10 => .int
  | 11 => .array .int
  | 12 => .array .int
  | 13 => .array .boolean
  | 14 => .array .int
  | 15 => .array .boolean
  | 16 => .array .int
  | 17 => .array .int
  | 18 => .array .int
  | 19 => .array .int
  | 20 => .array .int
  | 21 => .array .boolean
  | 22 => .array .int
  | 23 => .int
  | 24 => .int
  | 25 => .int
  | 26 => .array .int
  | 27 => .array .int
  | 28 => .array .int
  | 29 => .int
  | 30 => .int
  | 31 => .boolean
  | 32 => .array .int
  | 33 => .int
  | 34 => .int
  | _ => .int
def qCl : List vw_C := [("FlushProofs", qU0, 3), ("FlushProofs$Core", qU1, 8), ("FlushProofs$Nodes", qU2, 9), ("FlushProofs$Outcome", qU3, 7), ("FlushProofs$Planes", qU4, 4), ("FlushProofs$Prover", qU5, 7), ("FlushProofs$Question", qU6, 5), ("FlushProofs$Search", qU7, 15), ("FlushProofsModel", qU8, 36)]
def qTy (ci : Nat) : Nat → FieldType := match ci with
  | 0 => qV0
  | 1 => qV1
  | 2 => qV2
  | 3 => qV3
  | 4 => qV4
  | 5 => qV5
  | 6 => qV6
  | 7 => qV7
  | _ => qV8
def qDf (ci j : Nat) : Value := defaultValue (qTy ci j)
abbrev Y_XNodes_init : qY := (⟨"FlushProofs$Nodes", "<init>", "(I)V"⟩, prog_3_method_1_code, 2, none)
abbrev Y_JArrays_fill : qY := (⟨"java/util/Arrays", "fill", "([II)V"⟩, prog_22_method_103_code, 4, none)
abbrev Y_XNodes_isWord : qY := (⟨"FlushProofs$Nodes", "isWord", "(I)Z"⟩, prog_3_method_5_code, 2, (some .boolean))
abbrev Y_XNodes_hasFetch : qY := (⟨"FlushProofs$Nodes", "hasFetch", "(I)Z"⟩, prog_3_method_6_code, 2, (some .boolean))
abbrev Y_XNodes_put : qY := (⟨"FlushProofs$Nodes", "put", "(IIII)I"⟩, prog_3_method_18_code, 9, (some .int))
abbrev Y_XNodes_reset : qY := (⟨"FlushProofs$Nodes", "reset", "()V"⟩, prog_3_method_3_code, 1, none)
abbrev Y_XCore_init : qY := (⟨"FlushProofs$Core", "<init>", "()V"⟩, prog_2_method_1_code, 1, none)
abbrev Y_XNodes_makeElement : qY := (⟨"FlushProofs$Nodes", "makeElement", "(II)I"⟩, prog_3_method_7_code, 3, (some .int))
abbrev Y_XCore_addElement : qY := (⟨"FlushProofs$Core", "addElement", "(I)I"⟩, prog_2_method_2_code, 3, (some .int))
abbrev Y_XCore_tellNext : qY := (⟨"FlushProofs$Core", "tellNext", "(II)Z"⟩, prog_2_method_3_code, 4, (some .boolean))
abbrev Y_XCore_tellPlain : qY := (⟨"FlushProofs$Core", "tellPlain", "(II)Z"⟩, prog_2_method_4_code, 4, (some .boolean))
abbrev Y_XCore_addInvariant : qY := (⟨"FlushProofs$Core", "addInvariant", "(I)I"⟩, prog_2_method_5_code, 2, (some .int))
abbrev Y_XNodes_room : qY := (⟨"FlushProofs$Nodes", "room", "()I"⟩, prog_3_method_2_code, 1, (some .int))
abbrev Y_XNodes_has : qY := (⟨"FlushProofs$Nodes", "has", "(I)Z"⟩, prog_3_method_4_code, 2, (some .boolean))
abbrev Y_XNodes_makeApplication : qY := (⟨"FlushProofs$Nodes", "makeApplication", "(III)I"⟩, prog_3_method_8_code, 4, (some .int))
abbrev Y_XNodes_makeEquality : qY := (⟨"FlushProofs$Nodes", "makeEquality", "(II)I"⟩, prog_3_method_9_code, 3, (some .int))
abbrev Y_XNodes_makeNot : qY := (⟨"FlushProofs$Nodes", "makeNot", "(I)I"⟩, prog_3_method_10_code, 2, (some .int))
abbrev Y_XNodes_makeBoth : qY := (⟨"FlushProofs$Nodes", "makeBoth", "(II)I"⟩, prog_3_method_11_code, 3, (some .int))
abbrev Y_XNodes_makeChoice : qY := (⟨"FlushProofs$Nodes", "makeChoice", "(III)I"⟩, prog_3_method_12_code, 4, (some .int))
abbrev Y_XNodes_makeDifference : qY := (⟨"FlushProofs$Nodes", "makeDifference", "(II)I"⟩, prog_3_method_13_code, 3, (some .int))
abbrev Y_XNodes_imageOf : qY := (⟨"FlushProofs$Nodes", "imageOf", "([II)I"⟩, prog_3_method_17_code, 2, (some .int))
abbrev Y_XNodes_remakeAll : qY := (⟨"FlushProofs$Nodes", "remakeAll", "(LFlushProofs$Nodes;[I)V"⟩, prog_3_method_14_code, 6, none)
abbrev Y_XNodes_mark : qY := (⟨"FlushProofs$Nodes", "mark", "([ZI)V"⟩, prog_3_method_16_code, 3, none)
abbrev Y_XNodes_spread : qY := (⟨"FlushProofs$Nodes", "spread", "([Z)V"⟩, prog_3_method_15_code, 3, none)
abbrev Y_XOutcome_init : qY := (⟨"FlushProofs$Outcome", "<init>", "()V"⟩, prog_4_method_1_code, 1, none)
abbrev Y_XOutcome_begin : qY := (⟨"FlushProofs$Outcome", "begin", "(II)V"⟩, prog_4_method_2_code, 3, none)
abbrev Y_XOutcome_isTooLarge : qY := (⟨"FlushProofs$Outcome", "isTooLarge", "()Z"⟩, prog_4_method_3_code, 1, (some .boolean))
abbrev Y_XPlanes_init : qY := (⟨"FlushProofs$Planes", "<init>", "(LFlushProofs$Nodes;)V"⟩, prog_5_method_1_code, 2, none)
abbrev Y_XPlanes_truthOf : qY := (⟨"FlushProofs$Planes", "truthOf", "(I)J"⟩, prog_5_method_2_code, 2, (some .long))
abbrev Y_XPlanes_setTruth : qY := (⟨"FlushProofs$Planes", "setTruth", "(IJ)V"⟩, prog_5_method_3_code, 4, none)
abbrev Y_XPlanes_setWord : qY := (⟨"FlushProofs$Planes", "setWord", "(II)V"⟩, prog_5_method_4_code, 3, none)
abbrev Y_XPlanes_same : qY := (⟨"FlushProofs$Planes", "same", "(II)J"⟩, prog_5_method_5_code, 3, (some .long))
abbrev Y_XPlanes_choose : qY := (⟨"FlushProofs$Planes", "choose", "(IJII)V"⟩, prog_5_method_7_code, 6, none)
abbrev Y_XPlanes_reckon : qY := (⟨"FlushProofs$Planes", "reckon", "(I)V"⟩, prog_5_method_6_code, 4, none)
abbrev Y_XQuestion_init : qY := (⟨"FlushProofs$Question", "<init>", "()V"⟩, prog_7_method_1_code, 1, none)
abbrev Y_XSearch_init : qY := (⟨"FlushProofs$Search", "<init>", "(LFlushProofs$Nodes;LFlushProofs$Question;)V"⟩, prog_8_method_1_code, 3, none)
abbrev Y_XProver_init : qY := (⟨"FlushProofs$Prover", "<init>", "(I)V"⟩, prog_6_method_1_code, 2, none)
abbrev Y_XProver_room : qY := (⟨"FlushProofs$Prover", "room", "()I"⟩, prog_6_method_2_code, 1, (some .int))
abbrev Y_XQuestion_begin : qY := (⟨"FlushProofs$Question", "begin", "()V"⟩, prog_7_method_2_code, 1, none)
abbrev Y_XProver_putIn : qY := (⟨"FlushProofs$Prover", "putIn", "(LFlushProofs$Core;[II)V"⟩, prog_6_method_8_code, 5, none)
abbrev Y_XQuestion_addInvariant : qY := (⟨"FlushProofs$Question", "addInvariant", "(I)V"⟩, prog_7_method_3_code, 2, none)
abbrev Y_XProver_begin : qY := (⟨"FlushProofs$Prover", "begin", "(LFlushProofs$Core;)V"⟩, prog_6_method_5_code, 4, none)
abbrev Y_XProver_takeImages : qY := (⟨"FlushProofs$Prover", "takeImages", "(LFlushProofs$Core;[I[I)V"⟩, prog_6_method_9_code, 5, none)
abbrev Y_XProver_step : qY := (⟨"FlushProofs$Prover", "step", "(LFlushProofs$Core;[II)V"⟩, prog_6_method_6_code, 4, none)
abbrev Y_XProver_plainStep : qY := (⟨"FlushProofs$Prover", "plainStep", "(LFlushProofs$Core;[I)V"⟩, prog_6_method_7_code, 3, none)
abbrev Y_XProver_markInvariants : qY := (⟨"FlushProofs$Prover", "markInvariants", "()V"⟩, prog_6_method_10_code, 2, none)
abbrev Y_XProver_countDeep : qY := (⟨"FlushProofs$Prover", "countDeep", "(LFlushProofs$Outcome;)V"⟩, prog_6_method_11_code, 4, none)
abbrev Y_XQuestion_addClaim : qY := (⟨"FlushProofs$Question", "addClaim", "(II)V"⟩, prog_7_method_4_code, 3, none)
abbrev Y_XProver_askEquation : qY := (⟨"FlushProofs$Prover", "askEquation", "(LFlushProofs$Core;ILFlushProofs$Outcome;)V"⟩, prog_6_method_3_code, 5, none)
abbrev Y_XProver_askKept : qY := (⟨"FlushProofs$Prover", "askKept", "(LFlushProofs$Core;ILFlushProofs$Outcome;)V"⟩, prog_6_method_4_code, 5, none)
abbrev Y_XProver_markNeeded : qY := (⟨"FlushProofs$Prover", "markNeeded", "()V"⟩, prog_6_method_13_code, 2, none)
abbrev Y_XSearch_addTruth : qY := (⟨"FlushProofs$Search", "addTruth", "(I)V"⟩, prog_8_method_6_code, 2, none)
abbrev Y_XSearch_addWord : qY := (⟨"FlushProofs$Search", "addWord", "(I)V"⟩, prog_8_method_7_code, 2, none)
abbrev Y_XSearch_collectNode : qY := (⟨"FlushProofs$Search", "collectNode", "(II)V"⟩, prog_8_method_5_code, 3, none)
abbrev Y_XSearch_collect : qY := (⟨"FlushProofs$Search", "collect", "([Z)V"⟩, prog_8_method_4_code, 3, none)
abbrev Y_XSearch_levelOf : qY := (⟨"FlushProofs$Search", "levelOf", "(I)I"⟩, prog_8_method_10_code, 2, (some .int))
abbrev Y_XSearch_levelOfParts : qY := (⟨"FlushProofs$Search", "levelOfParts", "(I)I"⟩, prog_8_method_9_code, 3, (some .int))
abbrev Y_XSearch_setLevels : qY := (⟨"FlushProofs$Search", "setLevels", "([Z)V"⟩, prog_8_method_8_code, 5, none)
abbrev Y_XSearch_arrange : qY := (⟨"FlushProofs$Search", "arrange", "([Z)V"⟩, prog_8_method_11_code, 3, none)
abbrev Y_XSearch_setTruths : qY := (⟨"FlushProofs$Search", "setTruths", "()V"⟩, prog_8_method_12_code, 2, none)
abbrev Y_XSearch_reckonLevel : qY := (⟨"FlushProofs$Search", "reckonLevel", "(I)V"⟩, prog_8_method_13_code, 3, none)
abbrev Y_XSearch_statesBelow : qY := (⟨"FlushProofs$Search", "statesBelow", "(I)J"⟩, prog_8_method_21_code, 1, (some .long))
abbrev Y_XSearch_withInvariants : qY := (⟨"FlushProofs$Search", "withInvariants", "(IJ)J"⟩, prog_8_method_14_code, 7, (some .long))
abbrev Y_JLong_bitCount : qY := (⟨"java/lang/Long", "bitCount", "(J)I"⟩, prog_15_method_50_code, 2, (some .int))
abbrev Y_XSearch_lowestClaim : qY := (⟨"FlushProofs$Search", "lowestClaim", "(I)I"⟩, prog_8_method_20_code, 3, (some .int))
abbrev Y_XSearch_look : qY := (⟨"FlushProofs$Search", "look", "(J)V"⟩, prog_8_method_19_code, 7, none)
abbrev Y_XSearch_statesOfUse : qY := (⟨"FlushProofs$Search", "statesOfUse", "(I)J"⟩, prog_8_method_16_code, 3, (some .long))
abbrev Y_XSearch_sameArguments : qY := (⟨"FlushProofs$Search", "sameArguments", "(II)J"⟩, prog_8_method_18_code, 7, (some .long))
abbrev Y_XSearch_withFunctions : qY := (⟨"FlushProofs$Search", "withFunctions", "(IIJ)J"⟩, prog_8_method_17_code, 10, (some .long))
abbrev Y_XSearch_giveNumbers : qY := (⟨"FlushProofs$Search", "giveNumbers", "(IIJ)V"⟩, prog_8_method_15_code, 8, none)
abbrev Y_XSearch_findLeast : qY := (⟨"FlushProofs$Search", "findLeast", "([Z)Z"⟩, prog_8_method_2_code, 4, (some .boolean))
abbrev Y_XSearch_tell : qY := (⟨"FlushProofs$Search", "tell", "(LFlushProofs$Outcome;)V"⟩, prog_8_method_3_code, 4, none)
abbrev Y_XProver_decide : qY := (⟨"FlushProofs$Prover", "decide", "(LFlushProofs$Outcome;)V"⟩, prog_6_method_12_code, 2, none)
abbrev Y_X_init : qY := (⟨"FlushProofs", "<init>", "()V"⟩, prog_1_method_1_code, 1, none)
abbrev Y_X_requireRoomForElement : qY := (⟨"FlushProofs", "requireRoomForElement", "()V"⟩, prog_1_method_18_code, 1, none)
abbrev Y_X_word : qY := (⟨"FlushProofs", "word", "()I"⟩, prog_1_method_2_code, 1, (some .int))
abbrev Y_X_truth : qY := (⟨"FlushProofs", "truth", "()I"⟩, prog_1_method_3_code, 1, (some .int))
abbrev Y_X_requireNode : qY := (⟨"FlushProofs", "requireNode", "(I)V"⟩, prog_1_method_19_code, 2, none)
abbrev Y_X_requireWord : qY := (⟨"FlushProofs", "requireWord", "(I)V"⟩, prog_1_method_21_code, 2, none)
abbrev Y_X_landed : qY := (⟨"FlushProofs", "landed", "(I)I"⟩, prog_1_method_26_code, 1, (some .int))
abbrev Y_X_apply : qY := (⟨"FlushProofs", "apply", "(III)I"⟩, prog_1_method_4_code, 4, (some .int))
abbrev Y_X_equal : qY := (⟨"FlushProofs", "equal", "(II)I"⟩, prog_1_method_5_code, 3, (some .int))
abbrev Y_X_requireTruth : qY := (⟨"FlushProofs", "requireTruth", "(I)V"⟩, prog_1_method_22_code, 2, none)
abbrev Y_X_not : qY := (⟨"FlushProofs", "not", "(I)I"⟩, prog_1_method_6_code, 2, (some .int))
abbrev Y_X_both : qY := (⟨"FlushProofs", "both", "(II)I"⟩, prog_1_method_7_code, 3, (some .int))
abbrev Y_X_requireSameSort : qY := (⟨"FlushProofs", "requireSameSort", "(II)V"⟩, prog_1_method_23_code, 3, none)
abbrev Y_X_choice : qY := (⟨"FlushProofs", "choice", "(III)I"⟩, prog_1_method_8_code, 4, (some .int))
abbrev Y_X_requireElement : qY := (⟨"FlushProofs", "requireElement", "(I)V"⟩, prog_1_method_20_code, 2, none)
abbrev Y_X_next : qY := (⟨"FlushProofs", "next", "(II)Z"⟩, prog_1_method_9_code, 3, (some .boolean))
abbrev Y_X_requireNoFetch : qY := (⟨"FlushProofs", "requireNoFetch", "(I)V"⟩, prog_1_method_24_code, 2, none)
abbrev Y_X_plain : qY := (⟨"FlushProofs", "plain", "(II)Z"⟩, prog_1_method_10_code, 3, (some .boolean))
abbrev Y_X_invariant : qY := (⟨"FlushProofs", "invariant", "(I)I"⟩, prog_1_method_11_code, 2, (some .int))
abbrev Y_X_makeRoom : qY := (⟨"FlushProofs", "makeRoom", "(I)V"⟩, prog_1_method_27_code, 5, none)
abbrev Y_X_run : qY := (⟨"FlushProofs", "run", "(I)I"⟩, prog_1_method_12_code, 2, (some .int))
abbrev Y_X_kept : qY := (⟨"FlushProofs", "kept", "(I)I"⟩, prog_1_method_13_code, 2, (some .int))
abbrev Y_X_requireFailure : qY := (⟨"FlushProofs", "requireFailure", "()V"⟩, prog_1_method_25_code, 1, none)
abbrev Y_X_witness : qY := (⟨"FlushProofs", "witness", "(I)I"⟩, prog_1_method_14_code, 2, (some .int))
abbrev Y_X_differs : qY := (⟨"FlushProofs", "differs", "()I"⟩, prog_1_method_15_code, 1, (some .int))
abbrev Y_X_node : qY := (⟨"FlushProofs", "node", "(II)I"⟩, prog_1_method_16_code, 3, (some .int))
abbrev Y_X_count : qY := (⟨"FlushProofs", "count", "(I)I"⟩, prog_1_method_17_code, 2, (some .int))
def qMs : List qY := [Y_XNodes_init, Y_JArrays_fill, Y_XNodes_isWord, Y_XNodes_hasFetch, Y_XNodes_put, Y_XNodes_reset, Y_XCore_init, Y_XNodes_makeElement, Y_XCore_addElement, Y_XCore_tellNext, Y_XCore_tellPlain, Y_XCore_addInvariant, Y_XNodes_room, Y_XNodes_has, Y_XNodes_makeApplication, Y_XNodes_makeEquality, Y_XNodes_makeNot, Y_XNodes_makeBoth, Y_XNodes_makeChoice, Y_XNodes_makeDifference, Y_XNodes_imageOf, Y_XNodes_remakeAll, Y_XNodes_mark, Y_XNodes_spread, Y_XOutcome_init, Y_XOutcome_begin, Y_XOutcome_isTooLarge, Y_XPlanes_init, Y_XPlanes_truthOf, Y_XPlanes_setTruth, Y_XPlanes_setWord, Y_XPlanes_same, Y_XPlanes_choose, Y_XPlanes_reckon, Y_XQuestion_init, Y_XSearch_init, Y_XProver_init, Y_XProver_room, Y_XQuestion_begin, Y_XProver_putIn, Y_XQuestion_addInvariant, Y_XProver_begin, Y_XProver_takeImages, Y_XProver_step, Y_XProver_plainStep, Y_XProver_markInvariants, Y_XProver_countDeep, Y_XQuestion_addClaim, Y_XProver_askEquation, Y_XProver_askKept, Y_XProver_markNeeded, Y_XSearch_addTruth, Y_XSearch_addWord, Y_XSearch_collectNode, Y_XSearch_collect, Y_XSearch_levelOf, Y_XSearch_levelOfParts, Y_XSearch_setLevels, Y_XSearch_arrange, Y_XSearch_setTruths, Y_XSearch_reckonLevel, Y_XSearch_statesBelow, Y_XSearch_withInvariants, Y_JLong_bitCount, Y_XSearch_lowestClaim, Y_XSearch_look, Y_XSearch_statesOfUse, Y_XSearch_sameArguments, Y_XSearch_withFunctions, Y_XSearch_giveNumbers, Y_XSearch_findLeast, Y_XSearch_tell, Y_XProver_decide, Y_X_init, Y_X_requireRoomForElement, Y_X_word, Y_X_truth, Y_X_requireNode, Y_X_requireWord, Y_X_landed, Y_X_apply, Y_X_equal, Y_X_requireTruth, Y_X_not, Y_X_both, Y_X_requireSameSort, Y_X_choice, Y_X_requireElement, Y_X_next, Y_X_requireNoFetch, Y_X_plain, Y_X_invariant, Y_X_makeRoom, Y_X_run, Y_X_kept, Y_X_requireFailure, Y_X_witness, Y_X_differs, Y_X_node, Y_X_count, (objectInit, (⟨#[0xb1]⟩ : ByteArray), 1, none), (Lib.Math.max.name, Lib.Math.max.code, 2, (some .int)), (Lib.Math.min.name, Lib.Math.min.code, 2, (some .int))]
def qMi : List Nat := [105, 160, 168, 172, 164, 157, 99, 490, 486, 637, 654, 682, 304, 514, 556, 571, 593, 605, 621, 772, 730, 727, 759, 767, 214, 707, 784, 299, 865, 834, 903, 849, 854, 845, 262, 293, 254, 698, 717, 723, 739, 712, 747, 743, 751, 755, 763, 776, 703, 919, 788, 804, 808, 800, 796, 820, 816, 812, 825, 830, 841, 857, 861, 876, 883, 873, 890, 898, 894, 869, 792, 907, 780, 91, 413, 409, 497, 510, 550, 559, 506, 567, 588, 584, 601, 616, 612, 632, 628, 648, 644, 662, 694, 689, 914, 931, 927, 940, 947, 401, 94, 577, 574]
def qTT : List Cond := [
  Cond.laysFinal "FlushProofs" "FlushProofs" "core" "LFlushProofs$Core;",
  Cond.laysFinal "FlushProofs" "FlushProofs" "outcome" "LFlushProofs$Outcome;",
  Cond.lays "FlushProofs" "FlushProofs" "prover" "LFlushProofs$Prover;",
  Cond.laysFinal "FlushProofs$Core" "FlushProofs$Core" "nodes" "LFlushProofs$Nodes;",
  Cond.laysFinal "FlushProofs$Core" "FlushProofs$Core" "elementNodes" "[I",
  Cond.laysFinal "FlushProofs$Core" "FlushProofs$Core" "nextNodes" "[I",
  Cond.laysFinal "FlushProofs$Core" "FlushProofs$Core" "plainNodes" "[I",
  Cond.laysFinal "FlushProofs$Core" "FlushProofs$Core" "invariants" "[I",
  Cond.lays "FlushProofs$Core" "FlushProofs$Core" "elementCount" "I",
  Cond.lays "FlushProofs$Core" "FlushProofs$Core" "seenCount" "I",
  Cond.lays "FlushProofs$Core" "FlushProofs$Core" "invariantCount" "I",
  Cond.laysFinal "FlushProofs$Nodes" "FlushProofs$Nodes" "kinds" "[I",
  Cond.laysFinal "FlushProofs$Nodes" "FlushProofs$Nodes" "firsts" "[I",
  Cond.laysFinal "FlushProofs$Nodes" "FlushProofs$Nodes" "seconds" "[I",
  Cond.laysFinal "FlushProofs$Nodes" "FlushProofs$Nodes" "thirds" "[I",
  Cond.laysFinal "FlushProofs$Nodes" "FlushProofs$Nodes" "words" "[Z",
  Cond.laysFinal "FlushProofs$Nodes" "FlushProofs$Nodes" "fetches" "[Z",
  Cond.laysFinal "FlushProofs$Nodes" "FlushProofs$Nodes" "heads" "[I",
  Cond.laysFinal "FlushProofs$Nodes" "FlushProofs$Nodes" "links" "[I",
  Cond.lays "FlushProofs$Nodes" "FlushProofs$Nodes" "used" "I",
  Cond.laysFinal "FlushProofs$Outcome" "FlushProofs$Outcome" "values" "[I",
  Cond.lays "FlushProofs$Outcome" "FlushProofs$Outcome" "answer" "I",
  Cond.lays "FlushProofs$Outcome" "FlushProofs$Outcome" "elementCount" "I",
  Cond.lays "FlushProofs$Outcome" "FlushProofs$Outcome" "fetch" "I",
  Cond.lays "FlushProofs$Outcome" "FlushProofs$Outcome" "differing" "I",
  Cond.lays "FlushProofs$Outcome" "FlushProofs$Outcome" "deepWords" "I",
  Cond.lays "FlushProofs$Outcome" "FlushProofs$Outcome" "deepTruths" "I",
  Cond.laysFinal "FlushProofs$Planes" "FlushProofs$Planes" "work" "LFlushProofs$Nodes;",
  Cond.laysFinal "FlushProofs$Planes" "FlushProofs$Planes" "lows" "[J",
  Cond.laysFinal "FlushProofs$Planes" "FlushProofs$Planes" "mids" "[J",
  Cond.laysFinal "FlushProofs$Planes" "FlushProofs$Planes" "highs" "[J",
  Cond.laysFinal "FlushProofs$Prover" "FlushProofs$Prover" "work" "LFlushProofs$Nodes;",
  Cond.laysFinal "FlushProofs$Prover" "FlushProofs$Prover" "question" "LFlushProofs$Question;",
  Cond.laysFinal "FlushProofs$Prover" "FlushProofs$Prover" "search" "LFlushProofs$Search;",
  Cond.laysFinal "FlushProofs$Prover" "FlushProofs$Prover" "marks" "[Z",
  Cond.laysFinal "FlushProofs$Prover" "FlushProofs$Prover" "images" "[I",
  Cond.laysFinal "FlushProofs$Prover" "FlushProofs$Prover" "oneWay" "[I",
  Cond.laysFinal "FlushProofs$Prover" "FlushProofs$Prover" "otherWay" "[I",
  Cond.laysFinal "FlushProofs$Question" "FlushProofs$Question" "invariants" "[I",
  Cond.laysFinal "FlushProofs$Question" "FlushProofs$Question" "claims" "[I",
  Cond.laysFinal "FlushProofs$Question" "FlushProofs$Question" "claimElements" "[I",
  Cond.lays "FlushProofs$Question" "FlushProofs$Question" "invariantCount" "I",
  Cond.lays "FlushProofs$Question" "FlushProofs$Question" "claimCount" "I",
  Cond.laysFinal "FlushProofs$Search" "FlushProofs$Search" "work" "LFlushProofs$Nodes;",
  Cond.laysFinal "FlushProofs$Search" "FlushProofs$Search" "question" "LFlushProofs$Question;",
  Cond.laysFinal "FlushProofs$Search" "FlushProofs$Search" "planes" "LFlushProofs$Planes;",
  Cond.laysFinal "FlushProofs$Search" "FlushProofs$Search" "truths" "[I",
  Cond.laysFinal "FlushProofs$Search" "FlushProofs$Search" "words" "[I",
  Cond.laysFinal "FlushProofs$Search" "FlushProofs$Search" "values" "[I",
  Cond.laysFinal "FlushProofs$Search" "FlushProofs$Search" "levels" "[I",
  Cond.laysFinal "FlushProofs$Search" "FlushProofs$Search" "order" "[I",
  Cond.laysFinal "FlushProofs$Search" "FlushProofs$Search" "starts" "[I",
  Cond.laysFinal "FlushProofs$Search" "FlushProofs$Search" "leastValues" "[I",
  Cond.lays "FlushProofs$Search" "FlushProofs$Search" "truthCount" "I",
  Cond.lays "FlushProofs$Search" "FlushProofs$Search" "wordCount" "I",
  Cond.lays "FlushProofs$Search" "FlushProofs$Search" "wordElementCount" "I",
  Cond.lays "FlushProofs$Search" "FlushProofs$Search" "leastIndex" "I",
  Cond.lays "FlushProofs$Search" "FlushProofs$Search" "leastClaim" "I",
  Cond.lays "FlushProofsModel" "FlushProofsModel" "thrown" "I",
  Cond.lays "FlushProofsModel" "FlushProofsModel" "nodes" "I",
  Cond.lays "FlushProofsModel" "FlushProofsModel" "all" "I",
  Cond.laysFinal "FlushProofsModel" "FlushProofsModel" "kind" "[I",
  Cond.laysFinal "FlushProofsModel" "FlushProofsModel" "one" "[I",
  Cond.laysFinal "FlushProofsModel" "FlushProofsModel" "two" "[I",
  Cond.laysFinal "FlushProofsModel" "FlushProofsModel" "three" "[I",
  Cond.laysFinal "FlushProofsModel" "FlushProofsModel" "chain" "[I",
  Cond.laysFinal "FlushProofsModel" "FlushProofsModel" "behind" "[I",
  Cond.lays "FlushProofsModel" "FlushProofsModel" "elements" "I",
  Cond.lays "FlushProofsModel" "FlushProofsModel" "invariants" "I",
  Cond.laysFinal "FlushProofsModel" "FlushProofsModel" "element" "[I",
  Cond.laysFinal "FlushProofsModel" "FlushProofsModel" "next" "[I",
  Cond.laysFinal "FlushProofsModel" "FlushProofsModel" "hasNext" "[Z",
  Cond.laysFinal "FlushProofsModel" "FlushProofsModel" "plain" "[I",
  Cond.laysFinal "FlushProofsModel" "FlushProofsModel" "seen" "[Z",
  Cond.laysFinal "FlushProofsModel" "FlushProofsModel" "invariant" "[I",
  Cond.laysFinal "FlushProofsModel" "FlushProofsModel" "made" "[I",
  Cond.laysFinal "FlushProofsModel" "FlushProofsModel" "state" "[I",
  Cond.laysFinal "FlushProofsModel" "FlushProofsModel" "oneWay" "[I",
  Cond.laysFinal "FlushProofsModel" "FlushProofsModel" "otherWay" "[I",
  Cond.laysFinal "FlushProofsModel" "FlushProofsModel" "deep" "[Z",
  Cond.laysFinal "FlushProofsModel" "FlushProofsModel" "value" "[I",
  Cond.lays "FlushProofsModel" "FlushProofsModel" "words" "I",
  Cond.lays "FlushProofsModel" "FlushProofsModel" "applications" "I",
  Cond.lays "FlushProofsModel" "FlushProofsModel" "truths" "I",
  Cond.laysFinal "FlushProofsModel" "FlushProofsModel" "wordNode" "[I",
  Cond.laysFinal "FlushProofsModel" "FlushProofsModel" "fall" "[I",
  Cond.laysFinal "FlushProofsModel" "FlushProofsModel" "truthNode" "[I",
  Cond.lays "FlushProofsModel" "FlushProofsModel" "deepWords" "I",
  Cond.lays "FlushProofsModel" "FlushProofsModel" "deepTruths" "I",
  Cond.lays "FlushProofsModel" "FlushProofsModel" "isAnswered" "Z",
  Cond.laysFinal "FlushProofsModel" "FlushProofsModel" "witness" "[I",
  Cond.lays "FlushProofsModel" "FlushProofsModel" "fetchThere" "I",
  Cond.lays "FlushProofsModel" "FlushProofsModel" "differs" "I",
  Cond.lays "FlushProofsModel" "FlushProofsModel" "answeredElements" "I",
  Cond.fieldLink "FlushProofs$Core" 14 "FlushProofs$Core" "nodes" "LFlushProofs$Nodes;",
  Cond.fieldLink "FlushProofs$Core" 23 "FlushProofs$Core" "elementNodes" "[I",
  Cond.fieldLink "FlushProofs$Core" 27 "FlushProofs$Core" "nextNodes" "[I",
  Cond.fieldLink "FlushProofs$Core" 30 "FlushProofs$Core" "plainNodes" "[I",
  Cond.fieldLink "FlushProofs$Core" 33 "FlushProofs$Core" "invariants" "[I",
  Cond.fieldLink "FlushProofs$Core" 36 "FlushProofs$Core" "elementCount" "I",
  Cond.fieldLink "FlushProofs$Core" 44 "FlushProofs$Core" "seenCount" "I",
  Cond.fieldLink "FlushProofs$Core" 47 "FlushProofs$Core" "invariantCount" "I",
  Cond.fieldLink "FlushProofs$Nodes" 15 "FlushProofs$Nodes" "firsts" "[I",
  Cond.fieldLink "FlushProofs$Nodes" 18 "FlushProofs$Nodes" "seconds" "[I",
  Cond.fieldLink "FlushProofs$Nodes" 21 "FlushProofs$Nodes" "thirds" "[I",
  Cond.fieldLink "FlushProofs$Nodes" 24 "FlushProofs$Nodes" "words" "[Z",
  Cond.fieldLink "FlushProofs$Nodes" 28 "FlushProofs$Nodes" "fetches" "[Z",
  Cond.fieldLink "FlushProofs$Nodes" 31 "FlushProofs$Nodes" "links" "[I",
  Cond.fieldLink "FlushProofs$Nodes" 34 "FlushProofs$Nodes" "heads" "[I",
  Cond.fieldLink "FlushProofs$Nodes" 43 "FlushProofs$Nodes" "used" "I",
  Cond.fieldLink "FlushProofs$Nodes" 9 "FlushProofs$Nodes" "kinds" "[I",
  Cond.fieldLink "FlushProofs$Outcome" 15 "FlushProofs$Outcome" "answer" "I",
  Cond.fieldLink "FlushProofs$Outcome" 25 "FlushProofs$Outcome" "elementCount" "I",
  Cond.fieldLink "FlushProofs$Outcome" 28 "FlushProofs$Outcome" "fetch" "I",
  Cond.fieldLink "FlushProofs$Outcome" 31 "FlushProofs$Outcome" "deepWords" "I",
  Cond.fieldLink "FlushProofs$Outcome" 34 "FlushProofs$Outcome" "deepTruths" "I",
  Cond.fieldLink "FlushProofs$Outcome" 9 "FlushProofs$Outcome" "values" "[I",
  Cond.fieldLink "FlushProofs$Planes" 21 "FlushProofs$Planes" "lows" "[J",
  Cond.fieldLink "FlushProofs$Planes" 25 "FlushProofs$Planes" "mids" "[J",
  Cond.fieldLink "FlushProofs$Planes" 28 "FlushProofs$Planes" "highs" "[J",
  Cond.fieldLink "FlushProofs$Planes" 9 "FlushProofs$Planes" "work" "LFlushProofs$Nodes;",
  Cond.fieldLink "FlushProofs$Prover" 14 "FlushProofs$Prover" "work" "LFlushProofs$Nodes;",
  Cond.fieldLink "FlushProofs$Prover" 23 "FlushProofs$Prover" "question" "LFlushProofs$Question;",
  Cond.fieldLink "FlushProofs$Prover" 32 "FlushProofs$Prover" "search" "LFlushProofs$Search;",
  Cond.fieldLink "FlushProofs$Prover" 36 "FlushProofs$Prover" "marks" "[Z",
  Cond.fieldLink "FlushProofs$Prover" 40 "FlushProofs$Prover" "images" "[I",
  Cond.fieldLink "FlushProofs$Prover" 44 "FlushProofs$Prover" "oneWay" "[I",
  Cond.fieldLink "FlushProofs$Prover" 47 "FlushProofs$Prover" "otherWay" "[I",
  Cond.fieldLink "FlushProofs$Question" 15 "FlushProofs$Question" "claims" "[I",
  Cond.fieldLink "FlushProofs$Question" 18 "FlushProofs$Question" "claimElements" "[I",
  Cond.fieldLink "FlushProofs$Question" 21 "FlushProofs$Question" "invariantCount" "I",
  Cond.fieldLink "FlushProofs$Question" 25 "FlushProofs$Question" "claimCount" "I",
  Cond.fieldLink "FlushProofs$Question" 9 "FlushProofs$Question" "invariants" "[I",
  Cond.fieldLink "FlushProofs$Search" 112 "FlushProofs$Search" "wordElementCount" "I",
  Cond.fieldLink "FlushProofs$Search" 115 "FlushProofs$Search" "wordCount" "I",
  Cond.fieldLink "FlushProofs$Search" 15 "FlushProofs$Search" "question" "LFlushProofs$Question;",
  Cond.fieldLink "FlushProofs$Search" 24 "FlushProofs$Search" "planes" "LFlushProofs$Planes;",
  Cond.fieldLink "FlushProofs$Search" 28 "FlushProofs$Search" "truths" "[I",
  Cond.fieldLink "FlushProofs$Search" 32 "FlushProofs$Search" "words" "[I",
  Cond.fieldLink "FlushProofs$Search" 35 "FlushProofs$Search" "values" "[I",
  Cond.fieldLink "FlushProofs$Search" 44 "FlushProofs$Search" "levels" "[I",
  Cond.fieldLink "FlushProofs$Search" 47 "FlushProofs$Search" "order" "[I",
  Cond.fieldLink "FlushProofs$Search" 50 "FlushProofs$Search" "starts" "[I",
  Cond.fieldLink "FlushProofs$Search" 53 "FlushProofs$Search" "leastValues" "[I",
  Cond.fieldLink "FlushProofs$Search" 56 "FlushProofs$Search" "leastIndex" "I",
  Cond.fieldLink "FlushProofs$Search" 60 "FlushProofs$Search" "leastClaim" "I",
  Cond.fieldLink "FlushProofs$Search" 80 "FlushProofs$Search" "truthCount" "I",
  Cond.fieldLink "FlushProofs$Search" 9 "FlushProofs$Search" "work" "LFlushProofs$Nodes;",
  Cond.fieldLink "FlushProofs" 10 "FlushProofs" "core" "LFlushProofs$Core;",
  Cond.fieldLink "FlushProofs" 19 "FlushProofs" "outcome" "LFlushProofs$Outcome;",
  Cond.fieldLink "FlushProofs" 28 "FlushProofs" "prover" "LFlushProofs$Prover;",
  Cond.initialized "FlushProofs$Nodes",
  Cond.instanceMethod ⟨"FlushProofs$Nodes", "reset", "()V"⟩,
  Cond.selects "FlushProofs$Nodes" ⟨"FlushProofs$Nodes", "reset", "()V"⟩ ⟨"FlushProofs$Nodes", "reset", "()V"⟩,
  Cond.methodLink "FlushProofs$Core" 20 ⟨"FlushProofs$Nodes", "reset", "()V"⟩,
  Cond.instanceMethod ⟨"FlushProofs$Nodes", "makeElement", "(II)I"⟩,
  Cond.selects "FlushProofs$Nodes" ⟨"FlushProofs$Nodes", "makeElement", "(II)I"⟩ ⟨"FlushProofs$Nodes", "makeElement", "(II)I"⟩,
  Cond.methodLink "FlushProofs$Core" 40 ⟨"FlushProofs$Nodes", "makeElement", "(II)I"⟩,
  Cond.instanceMethod ⟨"FlushProofs$Nodes", "put", "(IIII)I"⟩,
  Cond.selects "FlushProofs$Nodes" ⟨"FlushProofs$Nodes", "put", "(IIII)I"⟩ ⟨"FlushProofs$Nodes", "put", "(IIII)I"⟩,
  Cond.methodLink "FlushProofs$Nodes" 47 ⟨"FlushProofs$Nodes", "put", "(IIII)I"⟩,
  Cond.instanceMethod ⟨"FlushProofs$Nodes", "has", "(I)Z"⟩,
  Cond.selects "FlushProofs$Nodes" ⟨"FlushProofs$Nodes", "has", "(I)Z"⟩ ⟨"FlushProofs$Nodes", "has", "(I)Z"⟩,
  Cond.methodLink "FlushProofs$Nodes" 60 ⟨"FlushProofs$Nodes", "has", "(I)Z"⟩,
  Cond.instanceMethod ⟨"FlushProofs$Nodes", "isWord", "(I)Z"⟩,
  Cond.selects "FlushProofs$Nodes" ⟨"FlushProofs$Nodes", "isWord", "(I)Z"⟩ ⟨"FlushProofs$Nodes", "isWord", "(I)Z"⟩,
  Cond.methodLink "FlushProofs$Nodes" 64 ⟨"FlushProofs$Nodes", "isWord", "(I)Z"⟩,
  Cond.instanceMethod ⟨"FlushProofs$Nodes", "makeEquality", "(II)I"⟩,
  Cond.selects "FlushProofs$Nodes" ⟨"FlushProofs$Nodes", "makeEquality", "(II)I"⟩ ⟨"FlushProofs$Nodes", "makeEquality", "(II)I"⟩,
  Cond.methodLink "FlushProofs$Nodes" 67 ⟨"FlushProofs$Nodes", "makeEquality", "(II)I"⟩,
  Cond.instanceMethod ⟨"FlushProofs$Nodes", "makeNot", "(I)I"⟩,
  Cond.selects "FlushProofs$Nodes" ⟨"FlushProofs$Nodes", "makeNot", "(I)I"⟩ ⟨"FlushProofs$Nodes", "makeNot", "(I)I"⟩,
  Cond.methodLink "FlushProofs$Nodes" 70 ⟨"FlushProofs$Nodes", "makeNot", "(I)I"⟩,
  Cond.instanceMethod ⟨"FlushProofs$Nodes", "makeChoice", "(III)I"⟩,
  Cond.selects "FlushProofs$Nodes" ⟨"FlushProofs$Nodes", "makeChoice", "(III)I"⟩ ⟨"FlushProofs$Nodes", "makeChoice", "(III)I"⟩,
  Cond.methodLink "FlushProofs$Nodes" 74 ⟨"FlushProofs$Nodes", "makeChoice", "(III)I"⟩,
  Cond.instanceMethod ⟨"FlushProofs$Nodes", "makeApplication", "(III)I"⟩,
  Cond.selects "FlushProofs$Nodes" ⟨"FlushProofs$Nodes", "makeApplication", "(III)I"⟩ ⟨"FlushProofs$Nodes", "makeApplication", "(III)I"⟩,
  Cond.methodLink "FlushProofs$Nodes" 82 ⟨"FlushProofs$Nodes", "makeApplication", "(III)I"⟩,
  Cond.instanceMethod ⟨"FlushProofs$Nodes", "makeBoth", "(II)I"⟩,
  Cond.selects "FlushProofs$Nodes" ⟨"FlushProofs$Nodes", "makeBoth", "(II)I"⟩ ⟨"FlushProofs$Nodes", "makeBoth", "(II)I"⟩,
  Cond.methodLink "FlushProofs$Nodes" 85 ⟨"FlushProofs$Nodes", "makeBoth", "(II)I"⟩,
  Cond.instanceMethod ⟨"FlushProofs$Nodes", "mark", "([ZI)V"⟩,
  Cond.selects "FlushProofs$Nodes" ⟨"FlushProofs$Nodes", "mark", "([ZI)V"⟩ ⟨"FlushProofs$Nodes", "mark", "([ZI)V"⟩,
  Cond.methodLink "FlushProofs$Nodes" 88 ⟨"FlushProofs$Nodes", "mark", "([ZI)V"⟩,
  Cond.instanceMethod ⟨"FlushProofs$Nodes", "hasFetch", "(I)Z"⟩,
  Cond.selects "FlushProofs$Nodes" ⟨"FlushProofs$Nodes", "hasFetch", "(I)Z"⟩ ⟨"FlushProofs$Nodes", "hasFetch", "(I)Z"⟩,
  Cond.methodLink "FlushProofs$Nodes" 92 ⟨"FlushProofs$Nodes", "hasFetch", "(I)Z"⟩,
  Cond.instanceMethod ⟨"FlushProofs$Nodes", "room", "()I"⟩,
  Cond.selects "FlushProofs$Nodes" ⟨"FlushProofs$Nodes", "room", "()I"⟩ ⟨"FlushProofs$Nodes", "room", "()I"⟩,
  Cond.methodLink "FlushProofs$Planes" 15 ⟨"FlushProofs$Nodes", "room", "()I"⟩,
  Cond.initialized "FlushProofs$Planes",
  Cond.instanceMethod ⟨"FlushProofs$Planes", "same", "(II)J"⟩,
  Cond.selects "FlushProofs$Planes" ⟨"FlushProofs$Planes", "same", "(II)J"⟩ ⟨"FlushProofs$Planes", "same", "(II)J"⟩,
  Cond.methodLink "FlushProofs$Planes" 43 ⟨"FlushProofs$Planes", "same", "(II)J"⟩,
  Cond.instanceMethod ⟨"FlushProofs$Planes", "choose", "(IJII)V"⟩,
  Cond.selects "FlushProofs$Planes" ⟨"FlushProofs$Planes", "choose", "(IJII)V"⟩ ⟨"FlushProofs$Planes", "choose", "(IJII)V"⟩,
  Cond.methodLink "FlushProofs$Planes" 50 ⟨"FlushProofs$Planes", "choose", "(IJII)V"⟩,
  Cond.instanceMethod ⟨"FlushProofs$Nodes", "remakeAll", "(LFlushProofs$Nodes;[I)V"⟩,
  Cond.selects "FlushProofs$Nodes" ⟨"FlushProofs$Nodes", "remakeAll", "(LFlushProofs$Nodes;[I)V"⟩ ⟨"FlushProofs$Nodes", "remakeAll", "(LFlushProofs$Nodes;[I)V"⟩,
  Cond.methodLink "FlushProofs$Prover" 104 ⟨"FlushProofs$Nodes", "remakeAll", "(LFlushProofs$Nodes;[I)V"⟩,
  Cond.methodLink "FlushProofs$Prover" 111 ⟨"FlushProofs$Nodes", "makeNot", "(I)I"⟩,
  Cond.methodLink "FlushProofs$Prover" 115 ⟨"FlushProofs$Nodes", "reset", "()V"⟩,
  Cond.initialized "FlushProofs$Question",
  Cond.instanceMethod ⟨"FlushProofs$Question", "begin", "()V"⟩,
  Cond.selects "FlushProofs$Question" ⟨"FlushProofs$Question", "begin", "()V"⟩ ⟨"FlushProofs$Question", "begin", "()V"⟩,
  Cond.methodLink "FlushProofs$Prover" 118 ⟨"FlushProofs$Question", "begin", "()V"⟩,
  Cond.methodLink "FlushProofs$Prover" 123 ⟨"FlushProofs$Nodes", "isWord", "(I)Z"⟩,
  Cond.methodLink "FlushProofs$Prover" 127 ⟨"FlushProofs$Nodes", "makeElement", "(II)I"⟩,
  Cond.instanceMethod ⟨"FlushProofs$Question", "addInvariant", "(I)V"⟩,
  Cond.selects "FlushProofs$Question" ⟨"FlushProofs$Question", "addInvariant", "(I)V"⟩ ⟨"FlushProofs$Question", "addInvariant", "(I)V"⟩,
  Cond.methodLink "FlushProofs$Prover" 133 ⟨"FlushProofs$Question", "addInvariant", "(I)V"⟩,
  Cond.initialized "FlushProofs$Prover",
  Cond.instanceMethod ⟨"FlushProofs$Prover", "takeImages", "(LFlushProofs$Core;[I[I)V"⟩,
  Cond.selects "FlushProofs$Prover" ⟨"FlushProofs$Prover", "takeImages", "(LFlushProofs$Core;[I[I)V"⟩ ⟨"FlushProofs$Prover", "takeImages", "(LFlushProofs$Core;[I[I)V"⟩,
  Cond.methodLink "FlushProofs$Prover" 139 ⟨"FlushProofs$Prover", "takeImages", "(LFlushProofs$Core;[I[I)V"⟩,
  Cond.instanceMethod ⟨"FlushProofs$Nodes", "spread", "([Z)V"⟩,
  Cond.selects "FlushProofs$Nodes" ⟨"FlushProofs$Nodes", "spread", "([Z)V"⟩ ⟨"FlushProofs$Nodes", "spread", "([Z)V"⟩,
  Cond.methodLink "FlushProofs$Prover" 148 ⟨"FlushProofs$Nodes", "spread", "([Z)V"⟩,
  Cond.initialized "FlushProofs$Outcome",
  Cond.instanceMethod ⟨"FlushProofs$Outcome", "isTooLarge", "()Z"⟩,
  Cond.selects "FlushProofs$Outcome" ⟨"FlushProofs$Outcome", "isTooLarge", "()Z"⟩ ⟨"FlushProofs$Outcome", "isTooLarge", "()Z"⟩,
  Cond.methodLink "FlushProofs$Prover" 161 ⟨"FlushProofs$Outcome", "isTooLarge", "()Z"⟩,
  Cond.instanceMethod ⟨"FlushProofs$Prover", "markNeeded", "()V"⟩,
  Cond.selects "FlushProofs$Prover" ⟨"FlushProofs$Prover", "markNeeded", "()V"⟩ ⟨"FlushProofs$Prover", "markNeeded", "()V"⟩,
  Cond.methodLink "FlushProofs$Prover" 171 ⟨"FlushProofs$Prover", "markNeeded", "()V"⟩,
  Cond.initialized "FlushProofs$Search",
  Cond.instanceMethod ⟨"FlushProofs$Search", "findLeast", "([Z)Z"⟩,
  Cond.selects "FlushProofs$Search" ⟨"FlushProofs$Search", "findLeast", "([Z)Z"⟩ ⟨"FlushProofs$Search", "findLeast", "([Z)Z"⟩,
  Cond.methodLink "FlushProofs$Prover" 174 ⟨"FlushProofs$Search", "findLeast", "([Z)Z"⟩,
  Cond.instanceMethod ⟨"FlushProofs$Search", "tell", "(LFlushProofs$Outcome;)V"⟩,
  Cond.selects "FlushProofs$Search" ⟨"FlushProofs$Search", "tell", "(LFlushProofs$Outcome;)V"⟩ ⟨"FlushProofs$Search", "tell", "(LFlushProofs$Outcome;)V"⟩,
  Cond.methodLink "FlushProofs$Prover" 178 ⟨"FlushProofs$Search", "tell", "(LFlushProofs$Outcome;)V"⟩,
  Cond.methodLink "FlushProofs$Prover" 50 ⟨"FlushProofs$Nodes", "room", "()I"⟩,
  Cond.instanceMethod ⟨"FlushProofs$Outcome", "begin", "(II)V"⟩,
  Cond.selects "FlushProofs$Outcome" ⟨"FlushProofs$Outcome", "begin", "(II)V"⟩ ⟨"FlushProofs$Outcome", "begin", "(II)V"⟩,
  Cond.methodLink "FlushProofs$Prover" 60 ⟨"FlushProofs$Outcome", "begin", "(II)V"⟩,
  Cond.instanceMethod ⟨"FlushProofs$Prover", "begin", "(LFlushProofs$Core;)V"⟩,
  Cond.selects "FlushProofs$Prover" ⟨"FlushProofs$Prover", "begin", "(LFlushProofs$Core;)V"⟩ ⟨"FlushProofs$Prover", "begin", "(LFlushProofs$Core;)V"⟩,
  Cond.methodLink "FlushProofs$Prover" 66 ⟨"FlushProofs$Prover", "begin", "(LFlushProofs$Core;)V"⟩,
  Cond.instanceMethod ⟨"FlushProofs$Prover", "step", "(LFlushProofs$Core;[II)V"⟩,
  Cond.selects "FlushProofs$Prover" ⟨"FlushProofs$Prover", "step", "(LFlushProofs$Core;[II)V"⟩ ⟨"FlushProofs$Prover", "step", "(LFlushProofs$Core;[II)V"⟩,
  Cond.methodLink "FlushProofs$Prover" 69 ⟨"FlushProofs$Prover", "step", "(LFlushProofs$Core;[II)V"⟩,
  Cond.instanceMethod ⟨"FlushProofs$Prover", "plainStep", "(LFlushProofs$Core;[I)V"⟩,
  Cond.selects "FlushProofs$Prover" ⟨"FlushProofs$Prover", "plainStep", "(LFlushProofs$Core;[I)V"⟩ ⟨"FlushProofs$Prover", "plainStep", "(LFlushProofs$Core;[I)V"⟩,
  Cond.methodLink "FlushProofs$Prover" 73 ⟨"FlushProofs$Prover", "plainStep", "(LFlushProofs$Core;[I)V"⟩,
  Cond.instanceMethod ⟨"FlushProofs$Prover", "markInvariants", "()V"⟩,
  Cond.selects "FlushProofs$Prover" ⟨"FlushProofs$Prover", "markInvariants", "()V"⟩ ⟨"FlushProofs$Prover", "markInvariants", "()V"⟩,
  Cond.methodLink "FlushProofs$Prover" 77 ⟨"FlushProofs$Prover", "markInvariants", "()V"⟩,
  Cond.methodLink "FlushProofs$Prover" 83 ⟨"FlushProofs$Nodes", "mark", "([ZI)V"⟩,
  Cond.instanceMethod ⟨"FlushProofs$Prover", "countDeep", "(LFlushProofs$Outcome;)V"⟩,
  Cond.selects "FlushProofs$Prover" ⟨"FlushProofs$Prover", "countDeep", "(LFlushProofs$Outcome;)V"⟩ ⟨"FlushProofs$Prover", "countDeep", "(LFlushProofs$Outcome;)V"⟩,
  Cond.methodLink "FlushProofs$Prover" 87 ⟨"FlushProofs$Prover", "countDeep", "(LFlushProofs$Outcome;)V"⟩,
  Cond.instanceMethod ⟨"FlushProofs$Nodes", "makeDifference", "(II)I"⟩,
  Cond.selects "FlushProofs$Nodes" ⟨"FlushProofs$Nodes", "makeDifference", "(II)I"⟩ ⟨"FlushProofs$Nodes", "makeDifference", "(II)I"⟩,
  Cond.methodLink "FlushProofs$Prover" 91 ⟨"FlushProofs$Nodes", "makeDifference", "(II)I"⟩,
  Cond.instanceMethod ⟨"FlushProofs$Question", "addClaim", "(II)V"⟩,
  Cond.selects "FlushProofs$Question" ⟨"FlushProofs$Question", "addClaim", "(II)V"⟩ ⟨"FlushProofs$Question", "addClaim", "(II)V"⟩,
  Cond.methodLink "FlushProofs$Prover" 95 ⟨"FlushProofs$Question", "addClaim", "(II)V"⟩,
  Cond.instanceMethod ⟨"FlushProofs$Prover", "putIn", "(LFlushProofs$Core;[II)V"⟩,
  Cond.selects "FlushProofs$Prover" ⟨"FlushProofs$Prover", "putIn", "(LFlushProofs$Core;[II)V"⟩ ⟨"FlushProofs$Prover", "putIn", "(LFlushProofs$Core;[II)V"⟩,
  Cond.methodLink "FlushProofs$Prover" 98 ⟨"FlushProofs$Prover", "putIn", "(LFlushProofs$Core;[II)V"⟩,
  Cond.instanceMethod ⟨"FlushProofs$Search", "collectNode", "(II)V"⟩,
  Cond.selects "FlushProofs$Search" ⟨"FlushProofs$Search", "collectNode", "(II)V"⟩ ⟨"FlushProofs$Search", "collectNode", "(II)V"⟩,
  Cond.methodLink "FlushProofs$Search" 124 ⟨"FlushProofs$Search", "collectNode", "(II)V"⟩,
  Cond.instanceMethod ⟨"FlushProofs$Search", "addTruth", "(I)V"⟩,
  Cond.selects "FlushProofs$Search" ⟨"FlushProofs$Search", "addTruth", "(I)V"⟩ ⟨"FlushProofs$Search", "addTruth", "(I)V"⟩,
  Cond.methodLink "FlushProofs$Search" 128 ⟨"FlushProofs$Search", "addTruth", "(I)V"⟩,
  Cond.instanceMethod ⟨"FlushProofs$Search", "addWord", "(I)V"⟩,
  Cond.selects "FlushProofs$Search" ⟨"FlushProofs$Search", "addWord", "(I)V"⟩ ⟨"FlushProofs$Search", "addWord", "(I)V"⟩,
  Cond.methodLink "FlushProofs$Search" 131 ⟨"FlushProofs$Search", "addWord", "(I)V"⟩,
  Cond.instanceMethod ⟨"FlushProofs$Search", "levelOfParts", "(I)I"⟩,
  Cond.selects "FlushProofs$Search" ⟨"FlushProofs$Search", "levelOfParts", "(I)I"⟩ ⟨"FlushProofs$Search", "levelOfParts", "(I)I"⟩,
  Cond.methodLink "FlushProofs$Search" 134 ⟨"FlushProofs$Search", "levelOfParts", "(I)I"⟩,
  Cond.instanceMethod ⟨"FlushProofs$Search", "levelOf", "(I)I"⟩,
  Cond.selects "FlushProofs$Search" ⟨"FlushProofs$Search", "levelOf", "(I)I"⟩ ⟨"FlushProofs$Search", "levelOf", "(I)I"⟩,
  Cond.methodLink "FlushProofs$Search" 138 ⟨"FlushProofs$Search", "levelOf", "(I)I"⟩,
  Cond.instanceMethod ⟨"FlushProofs$Planes", "setTruth", "(IJ)V"⟩,
  Cond.selects "FlushProofs$Planes" ⟨"FlushProofs$Planes", "setTruth", "(IJ)V"⟩ ⟨"FlushProofs$Planes", "setTruth", "(IJ)V"⟩,
  Cond.methodLink "FlushProofs$Search" 159 ⟨"FlushProofs$Planes", "setTruth", "(IJ)V"⟩,
  Cond.instanceMethod ⟨"FlushProofs$Planes", "reckon", "(I)V"⟩,
  Cond.selects "FlushProofs$Planes" ⟨"FlushProofs$Planes", "reckon", "(I)V"⟩ ⟨"FlushProofs$Planes", "reckon", "(I)V"⟩,
  Cond.methodLink "FlushProofs$Search" 169 ⟨"FlushProofs$Planes", "reckon", "(I)V"⟩,
  Cond.instanceMethod ⟨"FlushProofs$Planes", "truthOf", "(I)J"⟩,
  Cond.selects "FlushProofs$Planes" ⟨"FlushProofs$Planes", "truthOf", "(I)J"⟩ ⟨"FlushProofs$Planes", "truthOf", "(I)J"⟩,
  Cond.methodLink "FlushProofs$Search" 178 ⟨"FlushProofs$Planes", "truthOf", "(I)J"⟩,
  Cond.instanceMethod ⟨"FlushProofs$Search", "look", "(J)V"⟩,
  Cond.selects "FlushProofs$Search" ⟨"FlushProofs$Search", "look", "(J)V"⟩ ⟨"FlushProofs$Search", "look", "(J)V"⟩,
  Cond.methodLink "FlushProofs$Search" 181 ⟨"FlushProofs$Search", "look", "(J)V"⟩,
  Cond.instanceMethod ⟨"FlushProofs$Search", "statesOfUse", "(I)J"⟩,
  Cond.selects "FlushProofs$Search" ⟨"FlushProofs$Search", "statesOfUse", "(I)J"⟩ ⟨"FlushProofs$Search", "statesOfUse", "(I)J"⟩,
  Cond.methodLink "FlushProofs$Search" 185 ⟨"FlushProofs$Search", "statesOfUse", "(I)J"⟩,
  Cond.instanceMethod ⟨"FlushProofs$Search", "withFunctions", "(IIJ)J"⟩,
  Cond.selects "FlushProofs$Search" ⟨"FlushProofs$Search", "withFunctions", "(IIJ)J"⟩ ⟨"FlushProofs$Search", "withFunctions", "(IIJ)J"⟩,
  Cond.methodLink "FlushProofs$Search" 188 ⟨"FlushProofs$Search", "withFunctions", "(IIJ)J"⟩,
  Cond.instanceMethod ⟨"FlushProofs$Planes", "setWord", "(II)V"⟩,
  Cond.selects "FlushProofs$Planes" ⟨"FlushProofs$Planes", "setWord", "(II)V"⟩ ⟨"FlushProofs$Planes", "setWord", "(II)V"⟩,
  Cond.methodLink "FlushProofs$Search" 192 ⟨"FlushProofs$Planes", "setWord", "(II)V"⟩,
  Cond.instanceMethod ⟨"FlushProofs$Search", "sameArguments", "(II)J"⟩,
  Cond.selects "FlushProofs$Search" ⟨"FlushProofs$Search", "sameArguments", "(II)J"⟩ ⟨"FlushProofs$Search", "sameArguments", "(II)J"⟩,
  Cond.methodLink "FlushProofs$Search" 195 ⟨"FlushProofs$Search", "sameArguments", "(II)J"⟩,
  Cond.methodLink "FlushProofs$Search" 199 ⟨"FlushProofs$Planes", "same", "(II)J"⟩,
  Cond.instanceMethod ⟨"FlushProofs$Search", "lowestClaim", "(I)I"⟩,
  Cond.selects "FlushProofs$Search" ⟨"FlushProofs$Search", "lowestClaim", "(I)I"⟩ ⟨"FlushProofs$Search", "lowestClaim", "(I)I"⟩,
  Cond.methodLink "FlushProofs$Search" 214 ⟨"FlushProofs$Search", "lowestClaim", "(I)I"⟩,
  Cond.methodLink "FlushProofs$Search" 38 ⟨"FlushProofs$Nodes", "room", "()I"⟩,
  Cond.instanceMethod ⟨"FlushProofs$Search", "collect", "([Z)V"⟩,
  Cond.selects "FlushProofs$Search" ⟨"FlushProofs$Search", "collect", "([Z)V"⟩ ⟨"FlushProofs$Search", "collect", "([Z)V"⟩,
  Cond.methodLink "FlushProofs$Search" 63 ⟨"FlushProofs$Search", "collect", "([Z)V"⟩,
  Cond.instanceMethod ⟨"FlushProofs$Search", "setLevels", "([Z)V"⟩,
  Cond.selects "FlushProofs$Search" ⟨"FlushProofs$Search", "setLevels", "([Z)V"⟩ ⟨"FlushProofs$Search", "setLevels", "([Z)V"⟩,
  Cond.methodLink "FlushProofs$Search" 67 ⟨"FlushProofs$Search", "setLevels", "([Z)V"⟩,
  Cond.instanceMethod ⟨"FlushProofs$Search", "arrange", "([Z)V"⟩,
  Cond.selects "FlushProofs$Search" ⟨"FlushProofs$Search", "arrange", "([Z)V"⟩ ⟨"FlushProofs$Search", "arrange", "([Z)V"⟩,
  Cond.methodLink "FlushProofs$Search" 70 ⟨"FlushProofs$Search", "arrange", "([Z)V"⟩,
  Cond.instanceMethod ⟨"FlushProofs$Search", "setTruths", "()V"⟩,
  Cond.selects "FlushProofs$Search" ⟨"FlushProofs$Search", "setTruths", "()V"⟩ ⟨"FlushProofs$Search", "setTruths", "()V"⟩,
  Cond.methodLink "FlushProofs$Search" 73 ⟨"FlushProofs$Search", "setTruths", "()V"⟩,
  Cond.instanceMethod ⟨"FlushProofs$Search", "reckonLevel", "(I)V"⟩,
  Cond.selects "FlushProofs$Search" ⟨"FlushProofs$Search", "reckonLevel", "(I)V"⟩ ⟨"FlushProofs$Search", "reckonLevel", "(I)V"⟩,
  Cond.methodLink "FlushProofs$Search" 76 ⟨"FlushProofs$Search", "reckonLevel", "(I)V"⟩,
  Cond.instanceMethod ⟨"FlushProofs$Search", "withInvariants", "(IJ)J"⟩,
  Cond.selects "FlushProofs$Search" ⟨"FlushProofs$Search", "withInvariants", "(IJ)J"⟩ ⟨"FlushProofs$Search", "withInvariants", "(IJ)J"⟩,
  Cond.methodLink "FlushProofs$Search" 87 ⟨"FlushProofs$Search", "withInvariants", "(IJ)J"⟩,
  Cond.instanceMethod ⟨"FlushProofs$Search", "giveNumbers", "(IIJ)V"⟩,
  Cond.selects "FlushProofs$Search" ⟨"FlushProofs$Search", "giveNumbers", "(IIJ)V"⟩ ⟨"FlushProofs$Search", "giveNumbers", "(IIJ)V"⟩,
  Cond.methodLink "FlushProofs$Search" 91 ⟨"FlushProofs$Search", "giveNumbers", "(IIJ)V"⟩,
  Cond.initialized "FlushProofs$Core",
  Cond.instanceMethod ⟨"FlushProofs$Core", "addInvariant", "(I)I"⟩,
  Cond.selects "FlushProofs$Core" ⟨"FlushProofs$Core", "addInvariant", "(I)I"⟩ ⟨"FlushProofs$Core", "addInvariant", "(I)I"⟩,
  Cond.methodLink "FlushProofs" 111 ⟨"FlushProofs$Core", "addInvariant", "(I)I"⟩,
  Cond.initialized "FlushProofs",
  Cond.instanceMethod ⟨"FlushProofs", "makeRoom", "(I)V"⟩,
  Cond.selects "FlushProofs" ⟨"FlushProofs", "makeRoom", "(I)V"⟩ ⟨"FlushProofs", "makeRoom", "(I)V"⟩,
  Cond.methodLink "FlushProofs" 116 ⟨"FlushProofs", "makeRoom", "(I)V"⟩,
  Cond.instanceMethod ⟨"FlushProofs$Prover", "askEquation", "(LFlushProofs$Core;ILFlushProofs$Outcome;)V"⟩,
  Cond.selects "FlushProofs$Prover" ⟨"FlushProofs$Prover", "askEquation", "(LFlushProofs$Core;ILFlushProofs$Outcome;)V"⟩ ⟨"FlushProofs$Prover", "askEquation", "(LFlushProofs$Core;ILFlushProofs$Outcome;)V"⟩,
  Cond.methodLink "FlushProofs" 119 ⟨"FlushProofs$Prover", "askEquation", "(LFlushProofs$Core;ILFlushProofs$Outcome;)V"⟩,
  Cond.instanceMethod ⟨"FlushProofs$Prover", "decide", "(LFlushProofs$Outcome;)V"⟩,
  Cond.selects "FlushProofs$Prover" ⟨"FlushProofs$Prover", "decide", "(LFlushProofs$Outcome;)V"⟩ ⟨"FlushProofs$Prover", "decide", "(LFlushProofs$Outcome;)V"⟩,
  Cond.methodLink "FlushProofs" 123 ⟨"FlushProofs$Prover", "decide", "(LFlushProofs$Outcome;)V"⟩,
  Cond.instanceMethod ⟨"FlushProofs$Prover", "askKept", "(LFlushProofs$Core;ILFlushProofs$Outcome;)V"⟩,
  Cond.selects "FlushProofs$Prover" ⟨"FlushProofs$Prover", "askKept", "(LFlushProofs$Core;ILFlushProofs$Outcome;)V"⟩ ⟨"FlushProofs$Prover", "askKept", "(LFlushProofs$Core;ILFlushProofs$Outcome;)V"⟩,
  Cond.methodLink "FlushProofs" 135 ⟨"FlushProofs$Prover", "askKept", "(LFlushProofs$Core;ILFlushProofs$Outcome;)V"⟩,
  Cond.instanceMethod ⟨"FlushProofs", "requireFailure", "()V"⟩,
  Cond.selects "FlushProofs" ⟨"FlushProofs", "requireFailure", "()V"⟩ ⟨"FlushProofs", "requireFailure", "()V"⟩,
  Cond.methodLink "FlushProofs" 138 ⟨"FlushProofs", "requireFailure", "()V"⟩,
  Cond.methodLink "FlushProofs" 187 ⟨"FlushProofs$Nodes", "has", "(I)Z"⟩,
  Cond.methodLink "FlushProofs" 195 ⟨"FlushProofs$Nodes", "isWord", "(I)Z"⟩,
  Cond.methodLink "FlushProofs" 204 ⟨"FlushProofs$Nodes", "hasFetch", "(I)Z"⟩,
  Cond.instanceMethod ⟨"FlushProofs$Prover", "room", "()I"⟩,
  Cond.selects "FlushProofs$Prover" ⟨"FlushProofs$Prover", "room", "()I"⟩ ⟨"FlushProofs$Prover", "room", "()I"⟩,
  Cond.methodLink "FlushProofs" 213 ⟨"FlushProofs$Prover", "room", "()I"⟩,
  Cond.instanceMethod ⟨"FlushProofs", "requireRoomForElement", "()V"⟩,
  Cond.selects "FlushProofs" ⟨"FlushProofs", "requireRoomForElement", "()V"⟩ ⟨"FlushProofs", "requireRoomForElement", "()V"⟩,
  Cond.methodLink "FlushProofs" 32 ⟨"FlushProofs", "requireRoomForElement", "()V"⟩,
  Cond.instanceMethod ⟨"FlushProofs$Core", "addElement", "(I)I"⟩,
  Cond.selects "FlushProofs$Core" ⟨"FlushProofs$Core", "addElement", "(I)I"⟩ ⟨"FlushProofs$Core", "addElement", "(I)I"⟩,
  Cond.methodLink "FlushProofs" 35 ⟨"FlushProofs$Core", "addElement", "(I)I"⟩,
  Cond.instanceMethod ⟨"FlushProofs", "requireNode", "(I)V"⟩,
  Cond.selects "FlushProofs" ⟨"FlushProofs", "requireNode", "(I)V"⟩ ⟨"FlushProofs", "requireNode", "(I)V"⟩,
  Cond.methodLink "FlushProofs" 39 ⟨"FlushProofs", "requireNode", "(I)V"⟩,
  Cond.instanceMethod ⟨"FlushProofs", "requireWord", "(I)V"⟩,
  Cond.selects "FlushProofs" ⟨"FlushProofs", "requireWord", "(I)V"⟩ ⟨"FlushProofs", "requireWord", "(I)V"⟩,
  Cond.methodLink "FlushProofs" 49 ⟨"FlushProofs", "requireWord", "(I)V"⟩,
  Cond.methodLink "FlushProofs" 56 ⟨"FlushProofs$Nodes", "makeApplication", "(III)I"⟩,
  Cond.methodLink "FlushProofs" 65 ⟨"FlushProofs$Nodes", "makeEquality", "(II)I"⟩,
  Cond.instanceMethod ⟨"FlushProofs", "requireTruth", "(I)V"⟩,
  Cond.selects "FlushProofs" ⟨"FlushProofs", "requireTruth", "(I)V"⟩ ⟨"FlushProofs", "requireTruth", "(I)V"⟩,
  Cond.methodLink "FlushProofs" 69 ⟨"FlushProofs", "requireTruth", "(I)V"⟩,
  Cond.methodLink "FlushProofs" 72 ⟨"FlushProofs$Nodes", "makeNot", "(I)I"⟩,
  Cond.methodLink "FlushProofs" 75 ⟨"FlushProofs$Nodes", "makeBoth", "(II)I"⟩,
  Cond.instanceMethod ⟨"FlushProofs", "requireSameSort", "(II)V"⟩,
  Cond.selects "FlushProofs" ⟨"FlushProofs", "requireSameSort", "(II)V"⟩ ⟨"FlushProofs", "requireSameSort", "(II)V"⟩,
  Cond.methodLink "FlushProofs" 78 ⟨"FlushProofs", "requireSameSort", "(II)V"⟩,
  Cond.methodLink "FlushProofs" 82 ⟨"FlushProofs$Nodes", "makeChoice", "(III)I"⟩,
  Cond.instanceMethod ⟨"FlushProofs", "requireElement", "(I)V"⟩,
  Cond.selects "FlushProofs" ⟨"FlushProofs", "requireElement", "(I)V"⟩ ⟨"FlushProofs", "requireElement", "(I)V"⟩,
  Cond.methodLink "FlushProofs" 85 ⟨"FlushProofs", "requireElement", "(I)V"⟩,
  Cond.instanceMethod ⟨"FlushProofs$Core", "tellNext", "(II)Z"⟩,
  Cond.selects "FlushProofs$Core" ⟨"FlushProofs$Core", "tellNext", "(II)Z"⟩ ⟨"FlushProofs$Core", "tellNext", "(II)Z"⟩,
  Cond.methodLink "FlushProofs" 92 ⟨"FlushProofs$Core", "tellNext", "(II)Z"⟩,
  Cond.instanceMethod ⟨"FlushProofs", "requireNoFetch", "(I)V"⟩,
  Cond.selects "FlushProofs" ⟨"FlushProofs", "requireNoFetch", "(I)V"⟩ ⟨"FlushProofs", "requireNoFetch", "(I)V"⟩,
  Cond.methodLink "FlushProofs" 96 ⟨"FlushProofs", "requireNoFetch", "(I)V"⟩,
  Cond.instanceMethod ⟨"FlushProofs$Core", "tellPlain", "(II)Z"⟩,
  Cond.selects "FlushProofs$Core" ⟨"FlushProofs$Core", "tellPlain", "(II)Z"⟩ ⟨"FlushProofs$Core", "tellPlain", "(II)Z"⟩,
  Cond.methodLink "FlushProofs" 99 ⟨"FlushProofs$Core", "tellPlain", "(II)Z"⟩,
  Cond.initialized "java/util/Arrays",
  Cond.static ⟨"java/util/Arrays", "fill", "([II)V"⟩,
  Cond.methodLink "FlushProofs$Nodes" 37 ⟨"java/util/Arrays", "fill", "([II)V"⟩,
  Cond.static ⟨"FlushProofs$Nodes", "imageOf", "([II)I"⟩,
  Cond.methodLink "FlushProofs$Nodes" 78 ⟨"FlushProofs$Nodes", "imageOf", "([II)I"⟩,
  Cond.methodLink "FlushProofs$Outcome" 19 ⟨"java/util/Arrays", "fill", "([II)V"⟩,
  Cond.methodLink "FlushProofs$Search" 153 ⟨"java/util/Arrays", "fill", "([II)V"⟩,
  Cond.initialized "java/lang/Long",
  Cond.static ⟨"java/lang/Long", "bitCount", "(J)I"⟩,
  Cond.methodLink "FlushProofs$Search" 208 ⟨"java/lang/Long", "bitCount", "(J)I"⟩,
  Cond.static ⟨"FlushProofs$Search", "statesBelow", "(I)J"⟩,
  Cond.methodLink "FlushProofs$Search" 83 ⟨"FlushProofs$Search", "statesBelow", "(I)J"⟩,
  Cond.static ⟨"FlushProofs", "landed", "(I)I"⟩,
  Cond.methodLink "FlushProofs" 62 ⟨"FlushProofs", "landed", "(I)I"⟩,
  Cond.instanceMethod ⟨"FlushProofs$Nodes", "<init>", "(I)V"⟩,
  Cond.methodLink "FlushProofs$Core" 11 ⟨"FlushProofs$Nodes", "<init>", "(I)V"⟩,
  Cond.methodLink "FlushProofs$Prover" 11 ⟨"FlushProofs$Nodes", "<init>", "(I)V"⟩,
  Cond.instanceMethod ⟨"FlushProofs$Question", "<init>", "()V"⟩,
  Cond.methodLink "FlushProofs$Prover" 22 ⟨"FlushProofs$Question", "<init>", "()V"⟩,
  Cond.instanceMethod ⟨"FlushProofs$Search", "<init>", "(LFlushProofs$Nodes;LFlushProofs$Question;)V"⟩,
  Cond.methodLink "FlushProofs$Prover" 29 ⟨"FlushProofs$Search", "<init>", "(LFlushProofs$Nodes;LFlushProofs$Question;)V"⟩,
  Cond.instanceMethod ⟨"FlushProofs$Planes", "<init>", "(LFlushProofs$Nodes;)V"⟩,
  Cond.methodLink "FlushProofs$Search" 21 ⟨"FlushProofs$Planes", "<init>", "(LFlushProofs$Nodes;)V"⟩,
  Cond.instanceMethod ⟨"FlushProofs$Outcome", "<init>", "()V"⟩,
  Cond.methodLink "FlushProofs" 18 ⟨"FlushProofs$Outcome", "<init>", "()V"⟩,
  Cond.instanceMethod ⟨"FlushProofs$Prover", "<init>", "(I)V"⟩,
  Cond.methodLink "FlushProofs" 25 ⟨"FlushProofs$Prover", "<init>", "(I)V"⟩,
  Cond.instanceMethod ⟨"FlushProofs$Core", "<init>", "()V"⟩,
  Cond.methodLink "FlushProofs" 9 ⟨"FlushProofs$Core", "<init>", "()V"⟩,
  Cond.classLink "FlushProofs$Core" 9 "FlushProofs$Nodes",
  Cond.instantiable "FlushProofs$Nodes" 9,
  Cond.classLink "FlushProofs$Prover" 20 "FlushProofs$Question",
  Cond.instantiable "FlushProofs$Question" 5,
  Cond.classLink "FlushProofs$Prover" 27 "FlushProofs$Search",
  Cond.instantiable "FlushProofs$Search" 15,
  Cond.classLink "FlushProofs$Prover" 9 "FlushProofs$Nodes",
  Cond.classLink "FlushProofs$Search" 19 "FlushProofs$Planes",
  Cond.instantiable "FlushProofs$Planes" 4,
  Cond.classLink "FlushProofs" 16 "FlushProofs$Outcome",
  Cond.instantiable "FlushProofs$Outcome" 7,
  Cond.classLink "FlushProofs" 23 "FlushProofs$Prover",
  Cond.instantiable "FlushProofs$Prover" 7,
  Cond.classLink "FlushProofs" 7 "FlushProofs$Core",
  Cond.instantiable "FlushProofs$Core" 8,
  Cond.methodLink "FlushProofs$Core" 3 ⟨"java/lang/Object", "<init>", "()V"⟩,
  Cond.methodLink "FlushProofs$Nodes" 3 ⟨"java/lang/Object", "<init>", "()V"⟩,
  Cond.methodLink "FlushProofs$Outcome" 3 ⟨"java/lang/Object", "<init>", "()V"⟩,
  Cond.methodLink "FlushProofs$Planes" 3 ⟨"java/lang/Object", "<init>", "()V"⟩,
  Cond.methodLink "FlushProofs$Prover" 3 ⟨"java/lang/Object", "<init>", "()V"⟩,
  Cond.methodLink "FlushProofs$Question" 3 ⟨"java/lang/Object", "<init>", "()V"⟩,
  Cond.methodLink "FlushProofs$Search" 3 ⟨"java/lang/Object", "<init>", "()V"⟩,
  Cond.methodLink "FlushProofs" 1 ⟨"java/lang/Object", "<init>", "()V"⟩,
  Cond.methodLink "FlushProofs$Nodes" 51 ⟨"java/lang/Math", "min", "(II)I"⟩,
  Cond.static ⟨"java/lang/Math", "min", "(II)I"⟩,
  Cond.initialized "java/lang/Math",
  Cond.methodLink "FlushProofs$Nodes" 57 ⟨"java/lang/Math", "max", "(II)I"⟩,
  Cond.static ⟨"java/lang/Math", "max", "(II)I"⟩,
  Cond.methodLink "FlushProofs$Search" 144 ⟨"java/lang/Math", "max", "(II)I"⟩,
  Cond.methodLink "FlushProofs$Search" 217 ⟨"java/lang/System", "arraycopy", "(Ljava/lang/Object;ILjava/lang/Object;II)V"⟩,
  Cond.native ⟨"java/lang/System", "arraycopy", "(Ljava/lang/Object;ILjava/lang/Object;II)V"⟩,
  Cond.static ⟨"java/lang/System", "arraycopy", "(Ljava/lang/Object;ILjava/lang/Object;II)V"⟩,
  Cond.initialized "java/lang/System",
  Cond.constantLong "java/lang/Long" 314 (6148914691236517205 : Int64),
  Cond.constantLong "java/lang/Long" 316 (3689348814741910323 : Int64),
  Cond.constantLong "java/lang/Long" 318 (1085102592571150095 : Int64),
  Cond.constantLong "FlushProofs$Planes" 31 (-1 : Int64),
  Cond.constantLong "FlushProofs$Search" 163 (-1 : Int64),
  Cond.instanceMethod ⟨"java/lang/Object", "<init>", "()V"⟩,
  Cond.arrayClass .int,
  Cond.arrayClass .boolean,
  Cond.arrayClass .long]
def qTi : List Nat := [391, 393, 395, 193, 195, 197, 199, 201, 203, 205, 207, 133, 135, 137, 139, 141, 143, 145, 147, 149, 235, 237, 239, 241, 243, 245, 247, 309, 311, 313, 315, 373, 375, 377, 379, 381, 383, 385, 278, 280, 282, 284, 286, 335, 337, 339, 341, 343, 345, 347, 349, 351, 353, 355, 357, 359, 361, 363, 1003, 1005, 1007, 1009, 1011, 1013, 1015, 1017, 1019, 1021, 1023, 1025, 1027, 1029, 1031, 1033, 1035, 1037, 1039, 1041, 1043, 1045, 1047, 1049, 1051, 1053, 1055, 1057, 1059, 1061, 1063, 1065, 1067, 1069, 1071, 1073, 173, 176, 179, 181, 183, 185, 188, 190, 112, 116, 120, 124, 126, 128, 127, 129, 107, 219, 222, 224, 229, 232, 216, 306, 307, 308, 305, 366, 367, 368, 369, 370, 371, 372, 267, 270, 272, 275, 264, 332, 331, 321, 322, 323, 324, 325, 326, 327, 328, 329, 333, 334, 330, 320, 388, 389, 390, 69, 155, 156, 154, 488, 489, 487, 163, 0, 161, 512, 513, 594, 166, 167, 165, 569, 570, 732, 591, 592, 733, 619, 620, 735, 554, 555, 731, 603, 604, 734, 757, 758, 768, 170, 171, 169, 302, 303, 301, 75, 847, 848, 846, 853, 28, 851, 725, 726, 724, 920, 713, 73, 715, 716, 714, 718, 719, 737, 738, 736, 72, 746, 13, 744, 765, 766, 764, 71, 782, 783, 781, 787, 17, 785, 74, 790, 791, 789, 905, 906, 904, 699, 705, 706, 704, 711, 10, 709, 742, 12, 740, 750, 14, 748, 754, 15, 752, 756, 762, 16, 760, 770, 771, 769, 774, 775, 773, 722, 11, 720, 799, 19, 797, 803, 20, 801, 807, 21, 805, 815, 23, 813, 819, 24, 817, 832, 833, 831, 843, 844, 842, 863, 864, 862, 872, 31, 870, 889, 33, 887, 893, 34, 891, 901, 902, 900, 897, 35, 895, 899, 882, 32, 880, 319, 795, 18, 793, 811, 22, 809, 824, 25, 822, 829, 26, 827, 840, 27, 838, 860, 29, 858, 868, 30, 866, 68, 680, 681, 679, 67, 693, 9, 691, 701, 702, 700, 778, 779, 777, 917, 918, 916, 930, 36, 928, 511, 551, 649, 696, 697, 695, 412, 1, 410, 484, 485, 483, 509, 3, 507, 549, 4, 547, 553, 568, 587, 5, 585, 590, 602, 615, 6, 613, 618, 631, 7, 629, 635, 636, 634, 647, 8, 645, 652, 653, 651, 70, 159, 158, 729, 728, 708, 826, 85, 875, 874, 856, 855, 558, 557, 104, 103, 257, 261, 260, 292, 291, 298, 297, 213, 212, 253, 252, 98, 97, 101, 102, 258, 259, 289, 290, 256, 295, 296, 210, 211, 250, 251, 95, 96, 100, 106, 215, 300, 255, 263, 294, 92, 572, 573, 83, 575, 576, 821, 884, 886, 885, 86, 877, 878, 879, 850, 835, 93, 152, 153, 318]
def qNN : List Cond := [
  Cond.fieldLinkNest "FlushProofs$Planes" 33 "FlushProofs$Nodes" "firsts" "[I" "FlushProofs",
  Cond.fieldLinkNest "FlushProofs$Planes" 37 "FlushProofs$Nodes" "seconds" "[I" "FlushProofs",
  Cond.fieldLinkNest "FlushProofs$Planes" 40 "FlushProofs$Nodes" "kinds" "[I" "FlushProofs",
  Cond.fieldLinkNest "FlushProofs$Planes" 47 "FlushProofs$Nodes" "thirds" "[I" "FlushProofs",
  Cond.fieldLinkNest "FlushProofs$Planes" 54 "FlushProofs$Nodes" "words" "[Z" "FlushProofs",
  Cond.fieldLinkNest "FlushProofs$Prover" 101 "FlushProofs$Core" "nodes" "LFlushProofs$Nodes;" "FlushProofs",
  Cond.fieldLinkNest "FlushProofs$Prover" 108 "FlushProofs$Core" "invariants" "[I" "FlushProofs",
  Cond.fieldLinkNest "FlushProofs$Prover" 120 "FlushProofs$Core" "elementNodes" "[I" "FlushProofs",
  Cond.fieldLinkNest "FlushProofs$Prover" 130 "FlushProofs$Core" "invariantCount" "I" "FlushProofs",
  Cond.fieldLinkNest "FlushProofs$Prover" 136 "FlushProofs$Core" "nextNodes" "[I" "FlushProofs",
  Cond.fieldLinkNest "FlushProofs$Prover" 143 "FlushProofs$Nodes" "used" "I" "FlushProofs",
  Cond.fieldLinkNest "FlushProofs$Prover" 146 "FlushProofs$Question" "invariantCount" "I" "FlushProofs",
  Cond.fieldLinkNest "FlushProofs$Prover" 147 "FlushProofs$Question" "invariants" "[I" "FlushProofs",
  Cond.fieldLinkNest "FlushProofs$Prover" 152 "FlushProofs$Nodes" "kinds" "[I" "FlushProofs",
  Cond.fieldLinkNest "FlushProofs$Prover" 155 "FlushProofs$Outcome" "deepWords" "I" "FlushProofs",
  Cond.fieldLinkNest "FlushProofs$Prover" 158 "FlushProofs$Outcome" "deepTruths" "I" "FlushProofs",
  Cond.fieldLinkNest "FlushProofs$Prover" 165 "FlushProofs$Outcome" "answer" "I" "FlushProofs",
  Cond.fieldLinkNest "FlushProofs$Prover" 168 "FlushProofs$Question" "claimCount" "I" "FlushProofs",
  Cond.fieldLinkNest "FlushProofs$Prover" 181 "FlushProofs$Question" "claims" "[I" "FlushProofs",
  Cond.fieldLinkNest "FlushProofs$Prover" 54 "FlushProofs$Core" "elementCount" "I" "FlushProofs",
  Cond.fieldLinkNest "FlushProofs$Prover" 80 "FlushProofs$Core" "plainNodes" "[I" "FlushProofs",
  Cond.fieldLinkNest "FlushProofs$Search" 100 "FlushProofs$Outcome" "differing" "I" "FlushProofs",
  Cond.fieldLinkNest "FlushProofs$Search" 105 "FlushProofs$Outcome" "fetch" "I" "FlushProofs",
  Cond.fieldLinkNest "FlushProofs$Search" 108 "FlushProofs$Outcome" "values" "[I" "FlushProofs",
  Cond.fieldLinkNest "FlushProofs$Search" 109 "FlushProofs$Nodes" "firsts" "[I" "FlushProofs",
  Cond.fieldLinkNest "FlushProofs$Search" 118 "FlushProofs$Nodes" "used" "I" "FlushProofs",
  Cond.fieldLinkNest "FlushProofs$Search" 121 "FlushProofs$Nodes" "kinds" "[I" "FlushProofs",
  Cond.fieldLinkNest "FlushProofs$Search" 141 "FlushProofs$Nodes" "seconds" "[I" "FlushProofs",
  Cond.fieldLinkNest "FlushProofs$Search" 150 "FlushProofs$Nodes" "thirds" "[I" "FlushProofs",
  Cond.fieldLinkNest "FlushProofs$Search" 172 "FlushProofs$Question" "invariantCount" "I" "FlushProofs",
  Cond.fieldLinkNest "FlushProofs$Search" 175 "FlushProofs$Question" "invariants" "[I" "FlushProofs",
  Cond.fieldLinkNest "FlushProofs$Search" 202 "FlushProofs$Question" "claimCount" "I" "FlushProofs",
  Cond.fieldLinkNest "FlushProofs$Search" 205 "FlushProofs$Question" "claims" "[I" "FlushProofs",
  Cond.fieldLinkNest "FlushProofs$Search" 95 "FlushProofs$Question" "claimElements" "[I" "FlushProofs",
  Cond.fieldLinkNest "FlushProofs" 102 "FlushProofs$Core" "invariantCount" "I" "FlushProofs",
  Cond.fieldLinkNest "FlushProofs" 127 "FlushProofs$Outcome" "answer" "I" "FlushProofs",
  Cond.fieldLinkNest "FlushProofs" 141 "FlushProofs$Outcome" "fetch" "I" "FlushProofs",
  Cond.fieldLinkNest "FlushProofs" 144 "FlushProofs$Outcome" "elementCount" "I" "FlushProofs",
  Cond.fieldLinkNest "FlushProofs" 149 "FlushProofs$Outcome" "values" "[I" "FlushProofs",
  Cond.fieldLinkNest "FlushProofs" 152 "FlushProofs$Outcome" "differing" "I" "FlushProofs",
  Cond.fieldLinkNest "FlushProofs" 155 "FlushProofs$Nodes" "kinds" "[I" "FlushProofs",
  Cond.fieldLinkNest "FlushProofs" 158 "FlushProofs$Nodes" "firsts" "[I" "FlushProofs",
  Cond.fieldLinkNest "FlushProofs" 161 "FlushProofs$Nodes" "seconds" "[I" "FlushProofs",
  Cond.fieldLinkNest "FlushProofs" 164 "FlushProofs$Nodes" "thirds" "[I" "FlushProofs",
  Cond.fieldLinkNest "FlushProofs" 169 "FlushProofs$Nodes" "used" "I" "FlushProofs",
  Cond.fieldLinkNest "FlushProofs" 172 "FlushProofs$Core" "elementCount" "I" "FlushProofs",
  Cond.fieldLinkNest "FlushProofs" 173 "FlushProofs$Core" "seenCount" "I" "FlushProofs",
  Cond.fieldLinkNest "FlushProofs" 176 "FlushProofs$Outcome" "deepWords" "I" "FlushProofs",
  Cond.fieldLinkNest "FlushProofs" 179 "FlushProofs$Outcome" "deepTruths" "I" "FlushProofs",
  Cond.fieldLinkNest "FlushProofs" 52 "FlushProofs$Core" "nodes" "LFlushProofs$Nodes;" "FlushProofs",
  Cond.fieldLinkNest "FlushProofs" 88 "FlushProofs$Core" "elementNodes" "[I" "FlushProofs",
  Cond.fieldLinkNest "FlushProofs$Search" 165 "FlushProofs" "COLUMNS" "[J" "FlushProofs"]
def qNi : List Nat := [114, 117, 109, 121, 125, 174, 184, 177, 191, 180, 131, 273, 265, 110, 230, 233, 220, 276, 268, 186, 182, 227, 225, 217, 113, 130, 108, 118, 122, 274, 266, 277, 269, 271, 192, 221, 226, 223, 218, 228, 111, 115, 119, 123, 132, 187, 189, 231, 234, 175, 178, 836]
def qSr : List (String × Nat × String) := [("FlushProofs", 184, "no room for an element"), ("FlushProofs", 191, "no such node"), ("FlushProofs", 44, "no such function"), ("FlushProofs", 198, "a word node is wanted"), ("FlushProofs", 211, "there are 300 nodes"), ("FlushProofs", 200, "a truth node is wanted"), ("FlushProofs", 202, "nodes of one sort are wanted"), ("FlushProofs", 193, "no such element"), ("FlushProofs", 207, "FETCH must not be in it"), ("FlushProofs", 108, "there are eight invariants"), ("FlushProofs", 114, "no such depth"), ("FlushProofs", 132, "no such invariant"), ("FlushProofs", 209, "the latest question did not fail"), ("FlushProofs", 147, "no such element then"), ("FlushProofs", 167, "a node has a kind and three parts")]
theorem qTT_in : qTT = qTi.filterMap (fun i => lw_tbl[i]?) := by decide +kernel
theorem qNN_in : qNN = qNi.filterMap (fun i => lw_tbl[i]?) := by decide +kernel
set_option maxRecDepth 100000 in
theorem qMs_0 : lw_tbl[105]? = some (Cond.code Y_XNodes_init.1 Y_XNodes_init.2.1 Y_XNodes_init.2.2.1 Y_XNodes_init.2.2.2) := rfl
set_option maxRecDepth 100000 in
theorem qMs_1 : lw_tbl[160]? = some (Cond.code Y_JArrays_fill.1 Y_JArrays_fill.2.1 Y_JArrays_fill.2.2.1 Y_JArrays_fill.2.2.2) := rfl
set_option maxRecDepth 100000 in
theorem qMs_2 : lw_tbl[168]? = some (Cond.code Y_XNodes_isWord.1 Y_XNodes_isWord.2.1 Y_XNodes_isWord.2.2.1 Y_XNodes_isWord.2.2.2) := rfl
set_option maxRecDepth 100000 in
theorem qMs_3 : lw_tbl[172]? = some (Cond.code Y_XNodes_hasFetch.1 Y_XNodes_hasFetch.2.1 Y_XNodes_hasFetch.2.2.1 Y_XNodes_hasFetch.2.2.2) := rfl
set_option maxRecDepth 100000 in
theorem qMs_4 : lw_tbl[164]? = some (Cond.code Y_XNodes_put.1 Y_XNodes_put.2.1 Y_XNodes_put.2.2.1 Y_XNodes_put.2.2.2) := rfl
set_option maxRecDepth 100000 in
theorem qMs_5 : lw_tbl[157]? = some (Cond.code Y_XNodes_reset.1 Y_XNodes_reset.2.1 Y_XNodes_reset.2.2.1 Y_XNodes_reset.2.2.2) := rfl
set_option maxRecDepth 100000 in
theorem qMs_6 : lw_tbl[99]? = some (Cond.code Y_XCore_init.1 Y_XCore_init.2.1 Y_XCore_init.2.2.1 Y_XCore_init.2.2.2) := rfl
set_option maxRecDepth 100000 in
theorem qMs_7 : lw_tbl[490]? = some (Cond.code Y_XNodes_makeElement.1 Y_XNodes_makeElement.2.1 Y_XNodes_makeElement.2.2.1 Y_XNodes_makeElement.2.2.2) := rfl
set_option maxRecDepth 100000 in
theorem qMs_8 : lw_tbl[486]? = some (Cond.code Y_XCore_addElement.1 Y_XCore_addElement.2.1 Y_XCore_addElement.2.2.1 Y_XCore_addElement.2.2.2) := rfl
set_option maxRecDepth 100000 in
theorem qMs_9 : lw_tbl[637]? = some (Cond.code Y_XCore_tellNext.1 Y_XCore_tellNext.2.1 Y_XCore_tellNext.2.2.1 Y_XCore_tellNext.2.2.2) := rfl
set_option maxRecDepth 100000 in
theorem qMs_10 : lw_tbl[654]? = some (Cond.code Y_XCore_tellPlain.1 Y_XCore_tellPlain.2.1 Y_XCore_tellPlain.2.2.1 Y_XCore_tellPlain.2.2.2) := rfl
set_option maxRecDepth 100000 in
theorem qMs_11 : lw_tbl[682]? = some (Cond.code Y_XCore_addInvariant.1 Y_XCore_addInvariant.2.1 Y_XCore_addInvariant.2.2.1 Y_XCore_addInvariant.2.2.2) := rfl
set_option maxRecDepth 100000 in
theorem qMs_12 : lw_tbl[304]? = some (Cond.code Y_XNodes_room.1 Y_XNodes_room.2.1 Y_XNodes_room.2.2.1 Y_XNodes_room.2.2.2) := rfl
set_option maxRecDepth 100000 in
theorem qMs_13 : lw_tbl[514]? = some (Cond.code Y_XNodes_has.1 Y_XNodes_has.2.1 Y_XNodes_has.2.2.1 Y_XNodes_has.2.2.2) := rfl
set_option maxRecDepth 100000 in
theorem qMs_14 : lw_tbl[556]? = some (Cond.code Y_XNodes_makeApplication.1 Y_XNodes_makeApplication.2.1 Y_XNodes_makeApplication.2.2.1 Y_XNodes_makeApplication.2.2.2) := rfl
set_option maxRecDepth 100000 in
theorem qMs_15 : lw_tbl[571]? = some (Cond.code Y_XNodes_makeEquality.1 Y_XNodes_makeEquality.2.1 Y_XNodes_makeEquality.2.2.1 Y_XNodes_makeEquality.2.2.2) := rfl
set_option maxRecDepth 100000 in
theorem qMs_16 : lw_tbl[593]? = some (Cond.code Y_XNodes_makeNot.1 Y_XNodes_makeNot.2.1 Y_XNodes_makeNot.2.2.1 Y_XNodes_makeNot.2.2.2) := rfl
set_option maxRecDepth 100000 in
theorem qMs_17 : lw_tbl[605]? = some (Cond.code Y_XNodes_makeBoth.1 Y_XNodes_makeBoth.2.1 Y_XNodes_makeBoth.2.2.1 Y_XNodes_makeBoth.2.2.2) := rfl
set_option maxRecDepth 100000 in
theorem qMs_18 : lw_tbl[621]? = some (Cond.code Y_XNodes_makeChoice.1 Y_XNodes_makeChoice.2.1 Y_XNodes_makeChoice.2.2.1 Y_XNodes_makeChoice.2.2.2) := rfl
set_option maxRecDepth 100000 in
theorem qMs_19 : lw_tbl[772]? = some (Cond.code Y_XNodes_makeDifference.1 Y_XNodes_makeDifference.2.1 Y_XNodes_makeDifference.2.2.1 Y_XNodes_makeDifference.2.2.2) := rfl
set_option maxRecDepth 100000 in
theorem qMs_20 : lw_tbl[730]? = some (Cond.code Y_XNodes_imageOf.1 Y_XNodes_imageOf.2.1 Y_XNodes_imageOf.2.2.1 Y_XNodes_imageOf.2.2.2) := rfl
set_option maxRecDepth 100000 in
theorem qMs_21 : lw_tbl[727]? = some (Cond.code Y_XNodes_remakeAll.1 Y_XNodes_remakeAll.2.1 Y_XNodes_remakeAll.2.2.1 Y_XNodes_remakeAll.2.2.2) := rfl
set_option maxRecDepth 100000 in
theorem qMs_22 : lw_tbl[759]? = some (Cond.code Y_XNodes_mark.1 Y_XNodes_mark.2.1 Y_XNodes_mark.2.2.1 Y_XNodes_mark.2.2.2) := rfl
set_option maxRecDepth 100000 in
theorem qMs_23 : lw_tbl[767]? = some (Cond.code Y_XNodes_spread.1 Y_XNodes_spread.2.1 Y_XNodes_spread.2.2.1 Y_XNodes_spread.2.2.2) := rfl
set_option maxRecDepth 100000 in
theorem qMs_24 : lw_tbl[214]? = some (Cond.code Y_XOutcome_init.1 Y_XOutcome_init.2.1 Y_XOutcome_init.2.2.1 Y_XOutcome_init.2.2.2) := rfl
set_option maxRecDepth 100000 in
theorem qMs_25 : lw_tbl[707]? = some (Cond.code Y_XOutcome_begin.1 Y_XOutcome_begin.2.1 Y_XOutcome_begin.2.2.1 Y_XOutcome_begin.2.2.2) := rfl
set_option maxRecDepth 100000 in
theorem qMs_26 : lw_tbl[784]? = some (Cond.code Y_XOutcome_isTooLarge.1 Y_XOutcome_isTooLarge.2.1 Y_XOutcome_isTooLarge.2.2.1 Y_XOutcome_isTooLarge.2.2.2) := rfl
set_option maxRecDepth 100000 in
theorem qMs_27 : lw_tbl[299]? = some (Cond.code Y_XPlanes_init.1 Y_XPlanes_init.2.1 Y_XPlanes_init.2.2.1 Y_XPlanes_init.2.2.2) := rfl
set_option maxRecDepth 100000 in
theorem qMs_28 : lw_tbl[865]? = some (Cond.code Y_XPlanes_truthOf.1 Y_XPlanes_truthOf.2.1 Y_XPlanes_truthOf.2.2.1 Y_XPlanes_truthOf.2.2.2) := rfl
set_option maxRecDepth 100000 in
theorem qMs_29 : lw_tbl[834]? = some (Cond.code Y_XPlanes_setTruth.1 Y_XPlanes_setTruth.2.1 Y_XPlanes_setTruth.2.2.1 Y_XPlanes_setTruth.2.2.2) := rfl
set_option maxRecDepth 100000 in
theorem qMs_30 : lw_tbl[903]? = some (Cond.code Y_XPlanes_setWord.1 Y_XPlanes_setWord.2.1 Y_XPlanes_setWord.2.2.1 Y_XPlanes_setWord.2.2.2) := rfl
set_option maxRecDepth 100000 in
theorem qMs_31 : lw_tbl[849]? = some (Cond.code Y_XPlanes_same.1 Y_XPlanes_same.2.1 Y_XPlanes_same.2.2.1 Y_XPlanes_same.2.2.2) := rfl
set_option maxRecDepth 100000 in
theorem qMs_32 : lw_tbl[854]? = some (Cond.code Y_XPlanes_choose.1 Y_XPlanes_choose.2.1 Y_XPlanes_choose.2.2.1 Y_XPlanes_choose.2.2.2) := rfl
set_option maxRecDepth 100000 in
theorem qMs_33 : lw_tbl[845]? = some (Cond.code Y_XPlanes_reckon.1 Y_XPlanes_reckon.2.1 Y_XPlanes_reckon.2.2.1 Y_XPlanes_reckon.2.2.2) := rfl
set_option maxRecDepth 100000 in
theorem qMs_34 : lw_tbl[262]? = some (Cond.code Y_XQuestion_init.1 Y_XQuestion_init.2.1 Y_XQuestion_init.2.2.1 Y_XQuestion_init.2.2.2) := rfl
set_option maxRecDepth 100000 in
theorem qMs_35 : lw_tbl[293]? = some (Cond.code Y_XSearch_init.1 Y_XSearch_init.2.1 Y_XSearch_init.2.2.1 Y_XSearch_init.2.2.2) := rfl
set_option maxRecDepth 100000 in
theorem qMs_36 : lw_tbl[254]? = some (Cond.code Y_XProver_init.1 Y_XProver_init.2.1 Y_XProver_init.2.2.1 Y_XProver_init.2.2.2) := rfl
set_option maxRecDepth 100000 in
theorem qMs_37 : lw_tbl[698]? = some (Cond.code Y_XProver_room.1 Y_XProver_room.2.1 Y_XProver_room.2.2.1 Y_XProver_room.2.2.2) := rfl
set_option maxRecDepth 100000 in
theorem qMs_38 : lw_tbl[717]? = some (Cond.code Y_XQuestion_begin.1 Y_XQuestion_begin.2.1 Y_XQuestion_begin.2.2.1 Y_XQuestion_begin.2.2.2) := rfl
set_option maxRecDepth 100000 in
theorem qMs_39 : lw_tbl[723]? = some (Cond.code Y_XProver_putIn.1 Y_XProver_putIn.2.1 Y_XProver_putIn.2.2.1 Y_XProver_putIn.2.2.2) := rfl
set_option maxRecDepth 100000 in
theorem qMs_40 : lw_tbl[739]? = some (Cond.code Y_XQuestion_addInvariant.1 Y_XQuestion_addInvariant.2.1 Y_XQuestion_addInvariant.2.2.1 Y_XQuestion_addInvariant.2.2.2) := rfl
set_option maxRecDepth 100000 in
theorem qMs_41 : lw_tbl[712]? = some (Cond.code Y_XProver_begin.1 Y_XProver_begin.2.1 Y_XProver_begin.2.2.1 Y_XProver_begin.2.2.2) := rfl
set_option maxRecDepth 100000 in
theorem qMs_42 : lw_tbl[747]? = some (Cond.code Y_XProver_takeImages.1 Y_XProver_takeImages.2.1 Y_XProver_takeImages.2.2.1 Y_XProver_takeImages.2.2.2) := rfl
set_option maxRecDepth 100000 in
theorem qMs_43 : lw_tbl[743]? = some (Cond.code Y_XProver_step.1 Y_XProver_step.2.1 Y_XProver_step.2.2.1 Y_XProver_step.2.2.2) := rfl
set_option maxRecDepth 100000 in
theorem qMs_44 : lw_tbl[751]? = some (Cond.code Y_XProver_plainStep.1 Y_XProver_plainStep.2.1 Y_XProver_plainStep.2.2.1 Y_XProver_plainStep.2.2.2) := rfl
set_option maxRecDepth 100000 in
theorem qMs_45 : lw_tbl[755]? = some (Cond.code Y_XProver_markInvariants.1 Y_XProver_markInvariants.2.1 Y_XProver_markInvariants.2.2.1 Y_XProver_markInvariants.2.2.2) := rfl
set_option maxRecDepth 100000 in
theorem qMs_46 : lw_tbl[763]? = some (Cond.code Y_XProver_countDeep.1 Y_XProver_countDeep.2.1 Y_XProver_countDeep.2.2.1 Y_XProver_countDeep.2.2.2) := rfl
set_option maxRecDepth 100000 in
theorem qMs_47 : lw_tbl[776]? = some (Cond.code Y_XQuestion_addClaim.1 Y_XQuestion_addClaim.2.1 Y_XQuestion_addClaim.2.2.1 Y_XQuestion_addClaim.2.2.2) := rfl
set_option maxRecDepth 100000 in
theorem qMs_48 : lw_tbl[703]? = some (Cond.code Y_XProver_askEquation.1 Y_XProver_askEquation.2.1 Y_XProver_askEquation.2.2.1 Y_XProver_askEquation.2.2.2) := rfl
set_option maxRecDepth 100000 in
theorem qMs_49 : lw_tbl[919]? = some (Cond.code Y_XProver_askKept.1 Y_XProver_askKept.2.1 Y_XProver_askKept.2.2.1 Y_XProver_askKept.2.2.2) := rfl
set_option maxRecDepth 100000 in
theorem qMs_50 : lw_tbl[788]? = some (Cond.code Y_XProver_markNeeded.1 Y_XProver_markNeeded.2.1 Y_XProver_markNeeded.2.2.1 Y_XProver_markNeeded.2.2.2) := rfl
set_option maxRecDepth 100000 in
theorem qMs_51 : lw_tbl[804]? = some (Cond.code Y_XSearch_addTruth.1 Y_XSearch_addTruth.2.1 Y_XSearch_addTruth.2.2.1 Y_XSearch_addTruth.2.2.2) := rfl
set_option maxRecDepth 100000 in
theorem qMs_52 : lw_tbl[808]? = some (Cond.code Y_XSearch_addWord.1 Y_XSearch_addWord.2.1 Y_XSearch_addWord.2.2.1 Y_XSearch_addWord.2.2.2) := rfl
set_option maxRecDepth 100000 in
theorem qMs_53 : lw_tbl[800]? = some (Cond.code Y_XSearch_collectNode.1 Y_XSearch_collectNode.2.1 Y_XSearch_collectNode.2.2.1 Y_XSearch_collectNode.2.2.2) := rfl
set_option maxRecDepth 100000 in
theorem qMs_54 : lw_tbl[796]? = some (Cond.code Y_XSearch_collect.1 Y_XSearch_collect.2.1 Y_XSearch_collect.2.2.1 Y_XSearch_collect.2.2.2) := rfl
set_option maxRecDepth 100000 in
theorem qMs_55 : lw_tbl[820]? = some (Cond.code Y_XSearch_levelOf.1 Y_XSearch_levelOf.2.1 Y_XSearch_levelOf.2.2.1 Y_XSearch_levelOf.2.2.2) := rfl
set_option maxRecDepth 100000 in
theorem qMs_56 : lw_tbl[816]? = some (Cond.code Y_XSearch_levelOfParts.1 Y_XSearch_levelOfParts.2.1 Y_XSearch_levelOfParts.2.2.1 Y_XSearch_levelOfParts.2.2.2) := rfl
set_option maxRecDepth 100000 in
theorem qMs_57 : lw_tbl[812]? = some (Cond.code Y_XSearch_setLevels.1 Y_XSearch_setLevels.2.1 Y_XSearch_setLevels.2.2.1 Y_XSearch_setLevels.2.2.2) := rfl
set_option maxRecDepth 100000 in
theorem qMs_58 : lw_tbl[825]? = some (Cond.code Y_XSearch_arrange.1 Y_XSearch_arrange.2.1 Y_XSearch_arrange.2.2.1 Y_XSearch_arrange.2.2.2) := rfl
set_option maxRecDepth 100000 in
theorem qMs_59 : lw_tbl[830]? = some (Cond.code Y_XSearch_setTruths.1 Y_XSearch_setTruths.2.1 Y_XSearch_setTruths.2.2.1 Y_XSearch_setTruths.2.2.2) := rfl
set_option maxRecDepth 100000 in
theorem qMs_60 : lw_tbl[841]? = some (Cond.code Y_XSearch_reckonLevel.1 Y_XSearch_reckonLevel.2.1 Y_XSearch_reckonLevel.2.2.1 Y_XSearch_reckonLevel.2.2.2) := rfl
set_option maxRecDepth 100000 in
theorem qMs_61 : lw_tbl[857]? = some (Cond.code Y_XSearch_statesBelow.1 Y_XSearch_statesBelow.2.1 Y_XSearch_statesBelow.2.2.1 Y_XSearch_statesBelow.2.2.2) := rfl
set_option maxRecDepth 100000 in
theorem qMs_62 : lw_tbl[861]? = some (Cond.code Y_XSearch_withInvariants.1 Y_XSearch_withInvariants.2.1 Y_XSearch_withInvariants.2.2.1 Y_XSearch_withInvariants.2.2.2) := rfl
set_option maxRecDepth 100000 in
theorem qMs_63 : lw_tbl[876]? = some (Cond.code Y_JLong_bitCount.1 Y_JLong_bitCount.2.1 Y_JLong_bitCount.2.2.1 Y_JLong_bitCount.2.2.2) := rfl
set_option maxRecDepth 100000 in
theorem qMs_64 : lw_tbl[883]? = some (Cond.code Y_XSearch_lowestClaim.1 Y_XSearch_lowestClaim.2.1 Y_XSearch_lowestClaim.2.2.1 Y_XSearch_lowestClaim.2.2.2) := rfl
set_option maxRecDepth 100000 in
theorem qMs_65 : lw_tbl[873]? = some (Cond.code Y_XSearch_look.1 Y_XSearch_look.2.1 Y_XSearch_look.2.2.1 Y_XSearch_look.2.2.2) := rfl
set_option maxRecDepth 100000 in
theorem qMs_66 : lw_tbl[890]? = some (Cond.code Y_XSearch_statesOfUse.1 Y_XSearch_statesOfUse.2.1 Y_XSearch_statesOfUse.2.2.1 Y_XSearch_statesOfUse.2.2.2) := rfl
set_option maxRecDepth 100000 in
theorem qMs_67 : lw_tbl[898]? = some (Cond.code Y_XSearch_sameArguments.1 Y_XSearch_sameArguments.2.1 Y_XSearch_sameArguments.2.2.1 Y_XSearch_sameArguments.2.2.2) := rfl
set_option maxRecDepth 100000 in
theorem qMs_68 : lw_tbl[894]? = some (Cond.code Y_XSearch_withFunctions.1 Y_XSearch_withFunctions.2.1 Y_XSearch_withFunctions.2.2.1 Y_XSearch_withFunctions.2.2.2) := rfl
set_option maxRecDepth 100000 in
theorem qMs_69 : lw_tbl[869]? = some (Cond.code Y_XSearch_giveNumbers.1 Y_XSearch_giveNumbers.2.1 Y_XSearch_giveNumbers.2.2.1 Y_XSearch_giveNumbers.2.2.2) := rfl
set_option maxRecDepth 100000 in
theorem qMs_70 : lw_tbl[792]? = some (Cond.code Y_XSearch_findLeast.1 Y_XSearch_findLeast.2.1 Y_XSearch_findLeast.2.2.1 Y_XSearch_findLeast.2.2.2) := rfl
set_option maxRecDepth 100000 in
theorem qMs_71 : lw_tbl[907]? = some (Cond.code Y_XSearch_tell.1 Y_XSearch_tell.2.1 Y_XSearch_tell.2.2.1 Y_XSearch_tell.2.2.2) := rfl
set_option maxRecDepth 100000 in
theorem qMs_72 : lw_tbl[780]? = some (Cond.code Y_XProver_decide.1 Y_XProver_decide.2.1 Y_XProver_decide.2.2.1 Y_XProver_decide.2.2.2) := rfl
set_option maxRecDepth 100000 in
theorem qMs_73 : lw_tbl[91]? = some (Cond.code Y_X_init.1 Y_X_init.2.1 Y_X_init.2.2.1 Y_X_init.2.2.2) := rfl
set_option maxRecDepth 100000 in
theorem qMs_74 : lw_tbl[413]? = some (Cond.code Y_X_requireRoomForElement.1 Y_X_requireRoomForElement.2.1 Y_X_requireRoomForElement.2.2.1 Y_X_requireRoomForElement.2.2.2) := rfl
set_option maxRecDepth 100000 in
theorem qMs_75 : lw_tbl[409]? = some (Cond.code Y_X_word.1 Y_X_word.2.1 Y_X_word.2.2.1 Y_X_word.2.2.2) := rfl
set_option maxRecDepth 100000 in
theorem qMs_76 : lw_tbl[497]? = some (Cond.code Y_X_truth.1 Y_X_truth.2.1 Y_X_truth.2.2.1 Y_X_truth.2.2.2) := rfl
set_option maxRecDepth 100000 in
theorem qMs_77 : lw_tbl[510]? = some (Cond.code Y_X_requireNode.1 Y_X_requireNode.2.1 Y_X_requireNode.2.2.1 Y_X_requireNode.2.2.2) := rfl
set_option maxRecDepth 100000 in
theorem qMs_78 : lw_tbl[550]? = some (Cond.code Y_X_requireWord.1 Y_X_requireWord.2.1 Y_X_requireWord.2.2.1 Y_X_requireWord.2.2.2) := rfl
set_option maxRecDepth 100000 in
theorem qMs_79 : lw_tbl[559]? = some (Cond.code Y_X_landed.1 Y_X_landed.2.1 Y_X_landed.2.2.1 Y_X_landed.2.2.2) := rfl
set_option maxRecDepth 100000 in
theorem qMs_80 : lw_tbl[506]? = some (Cond.code Y_X_apply.1 Y_X_apply.2.1 Y_X_apply.2.2.1 Y_X_apply.2.2.2) := rfl
set_option maxRecDepth 100000 in
theorem qMs_81 : lw_tbl[567]? = some (Cond.code Y_X_equal.1 Y_X_equal.2.1 Y_X_equal.2.2.1 Y_X_equal.2.2.2) := rfl
set_option maxRecDepth 100000 in
theorem qMs_82 : lw_tbl[588]? = some (Cond.code Y_X_requireTruth.1 Y_X_requireTruth.2.1 Y_X_requireTruth.2.2.1 Y_X_requireTruth.2.2.2) := rfl
set_option maxRecDepth 100000 in
theorem qMs_83 : lw_tbl[584]? = some (Cond.code Y_X_not.1 Y_X_not.2.1 Y_X_not.2.2.1 Y_X_not.2.2.2) := rfl
set_option maxRecDepth 100000 in
theorem qMs_84 : lw_tbl[601]? = some (Cond.code Y_X_both.1 Y_X_both.2.1 Y_X_both.2.2.1 Y_X_both.2.2.2) := rfl
set_option maxRecDepth 100000 in
theorem qMs_85 : lw_tbl[616]? = some (Cond.code Y_X_requireSameSort.1 Y_X_requireSameSort.2.1 Y_X_requireSameSort.2.2.1 Y_X_requireSameSort.2.2.2) := rfl
set_option maxRecDepth 100000 in
theorem qMs_86 : lw_tbl[612]? = some (Cond.code Y_X_choice.1 Y_X_choice.2.1 Y_X_choice.2.2.1 Y_X_choice.2.2.2) := rfl
set_option maxRecDepth 100000 in
theorem qMs_87 : lw_tbl[632]? = some (Cond.code Y_X_requireElement.1 Y_X_requireElement.2.1 Y_X_requireElement.2.2.1 Y_X_requireElement.2.2.2) := rfl
set_option maxRecDepth 100000 in
theorem qMs_88 : lw_tbl[628]? = some (Cond.code Y_X_next.1 Y_X_next.2.1 Y_X_next.2.2.1 Y_X_next.2.2.2) := rfl
set_option maxRecDepth 100000 in
theorem qMs_89 : lw_tbl[648]? = some (Cond.code Y_X_requireNoFetch.1 Y_X_requireNoFetch.2.1 Y_X_requireNoFetch.2.2.1 Y_X_requireNoFetch.2.2.2) := rfl
set_option maxRecDepth 100000 in
theorem qMs_90 : lw_tbl[644]? = some (Cond.code Y_X_plain.1 Y_X_plain.2.1 Y_X_plain.2.2.1 Y_X_plain.2.2.2) := rfl
set_option maxRecDepth 100000 in
theorem qMs_91 : lw_tbl[662]? = some (Cond.code Y_X_invariant.1 Y_X_invariant.2.1 Y_X_invariant.2.2.1 Y_X_invariant.2.2.2) := rfl
set_option maxRecDepth 100000 in
theorem qMs_92 : lw_tbl[694]? = some (Cond.code Y_X_makeRoom.1 Y_X_makeRoom.2.1 Y_X_makeRoom.2.2.1 Y_X_makeRoom.2.2.2) := rfl
set_option maxRecDepth 100000 in
theorem qMs_93 : lw_tbl[689]? = some (Cond.code Y_X_run.1 Y_X_run.2.1 Y_X_run.2.2.1 Y_X_run.2.2.2) := rfl
set_option maxRecDepth 100000 in
theorem qMs_94 : lw_tbl[914]? = some (Cond.code Y_X_kept.1 Y_X_kept.2.1 Y_X_kept.2.2.1 Y_X_kept.2.2.2) := rfl
set_option maxRecDepth 100000 in
theorem qMs_95 : lw_tbl[931]? = some (Cond.code Y_X_requireFailure.1 Y_X_requireFailure.2.1 Y_X_requireFailure.2.2.1 Y_X_requireFailure.2.2.2) := rfl
set_option maxRecDepth 100000 in
theorem qMs_96 : lw_tbl[927]? = some (Cond.code Y_X_witness.1 Y_X_witness.2.1 Y_X_witness.2.2.1 Y_X_witness.2.2.2) := rfl
set_option maxRecDepth 100000 in
theorem qMs_97 : lw_tbl[940]? = some (Cond.code Y_X_differs.1 Y_X_differs.2.1 Y_X_differs.2.2.1 Y_X_differs.2.2.2) := rfl
set_option maxRecDepth 100000 in
theorem qMs_98 : lw_tbl[947]? = some (Cond.code Y_X_node.1 Y_X_node.2.1 Y_X_node.2.2.1 Y_X_node.2.2.2) := rfl
set_option maxRecDepth 100000 in
theorem qMs_99 : lw_tbl[401]? = some (Cond.code Y_X_count.1 Y_X_count.2.1 Y_X_count.2.2.1 Y_X_count.2.2.2) := rfl
set_option maxRecDepth 100000 in
theorem qMs_100 : lw_tbl[94]? = some (Cond.code ((objectInit, (⟨#[0xb1]⟩ : ByteArray), 1, none) : qY).1 ((objectInit, (⟨#[0xb1]⟩ : ByteArray), 1, none) : qY).2.1 ((objectInit, (⟨#[0xb1]⟩ : ByteArray), 1, none) : qY).2.2.1 ((objectInit, (⟨#[0xb1]⟩ : ByteArray), 1, none) : qY).2.2.2) := rfl
set_option maxRecDepth 100000 in
theorem qMs_101 : lw_tbl[577]? = some (Cond.code ((Lib.Math.max.name, Lib.Math.max.code, 2, (some .int)) : qY).1 ((Lib.Math.max.name, Lib.Math.max.code, 2, (some .int)) : qY).2.1 ((Lib.Math.max.name, Lib.Math.max.code, 2, (some .int)) : qY).2.2.1 ((Lib.Math.max.name, Lib.Math.max.code, 2, (some .int)) : qY).2.2.2) := rfl
set_option maxRecDepth 100000 in
theorem qMs_102 : lw_tbl[574]? = some (Cond.code ((Lib.Math.min.name, Lib.Math.min.code, 2, (some .int)) : qY).1 ((Lib.Math.min.name, Lib.Math.min.code, 2, (some .int)) : qY).2.1 ((Lib.Math.min.name, Lib.Math.min.code, 2, (some .int)) : qY).2.2.1 ((Lib.Math.min.name, Lib.Math.min.code, 2, (some .int)) : qY).2.2.2) := rfl
set_option maxRecDepth 100000 in
theorem qMs_in : ∀ Y ∈ qMs, Cond.code Y.1 Y.2.1 Y.2.2.1 Y.2.2.2 ∈ lw_tbl := List.forall_mem_cons.mpr ⟨List.mem_of_getElem? qMs_0, List.forall_mem_cons.mpr ⟨List.mem_of_getElem? qMs_1, List.forall_mem_cons.mpr ⟨List.mem_of_getElem? qMs_2, List.forall_mem_cons.mpr ⟨List.mem_of_getElem? qMs_3, List.forall_mem_cons.mpr ⟨List.mem_of_getElem? qMs_4, List.forall_mem_cons.mpr ⟨List.mem_of_getElem? qMs_5, List.forall_mem_cons.mpr ⟨List.mem_of_getElem? qMs_6, List.forall_mem_cons.mpr ⟨List.mem_of_getElem? qMs_7, List.forall_mem_cons.mpr ⟨List.mem_of_getElem? qMs_8, List.forall_mem_cons.mpr ⟨List.mem_of_getElem? qMs_9, List.forall_mem_cons.mpr ⟨List.mem_of_getElem? qMs_10, List.forall_mem_cons.mpr ⟨List.mem_of_getElem? qMs_11, List.forall_mem_cons.mpr ⟨List.mem_of_getElem? qMs_12, List.forall_mem_cons.mpr ⟨List.mem_of_getElem? qMs_13, List.forall_mem_cons.mpr ⟨List.mem_of_getElem? qMs_14, List.forall_mem_cons.mpr ⟨List.mem_of_getElem? qMs_15, List.forall_mem_cons.mpr ⟨List.mem_of_getElem? qMs_16, List.forall_mem_cons.mpr ⟨List.mem_of_getElem? qMs_17, List.forall_mem_cons.mpr ⟨List.mem_of_getElem? qMs_18, List.forall_mem_cons.mpr ⟨List.mem_of_getElem? qMs_19, List.forall_mem_cons.mpr ⟨List.mem_of_getElem? qMs_20, List.forall_mem_cons.mpr ⟨List.mem_of_getElem? qMs_21, List.forall_mem_cons.mpr ⟨List.mem_of_getElem? qMs_22, List.forall_mem_cons.mpr ⟨List.mem_of_getElem? qMs_23, List.forall_mem_cons.mpr ⟨List.mem_of_getElem? qMs_24, List.forall_mem_cons.mpr ⟨List.mem_of_getElem? qMs_25, List.forall_mem_cons.mpr ⟨List.mem_of_getElem? qMs_26, List.forall_mem_cons.mpr ⟨List.mem_of_getElem? qMs_27, List.forall_mem_cons.mpr ⟨List.mem_of_getElem? qMs_28, List.forall_mem_cons.mpr ⟨List.mem_of_getElem? qMs_29, List.forall_mem_cons.mpr ⟨List.mem_of_getElem? qMs_30, List.forall_mem_cons.mpr ⟨List.mem_of_getElem? qMs_31, List.forall_mem_cons.mpr ⟨List.mem_of_getElem? qMs_32, List.forall_mem_cons.mpr ⟨List.mem_of_getElem? qMs_33, List.forall_mem_cons.mpr ⟨List.mem_of_getElem? qMs_34, List.forall_mem_cons.mpr ⟨List.mem_of_getElem? qMs_35, List.forall_mem_cons.mpr ⟨List.mem_of_getElem? qMs_36, List.forall_mem_cons.mpr ⟨List.mem_of_getElem? qMs_37, List.forall_mem_cons.mpr ⟨List.mem_of_getElem? qMs_38, List.forall_mem_cons.mpr ⟨List.mem_of_getElem? qMs_39, List.forall_mem_cons.mpr ⟨List.mem_of_getElem? qMs_40, List.forall_mem_cons.mpr ⟨List.mem_of_getElem? qMs_41, List.forall_mem_cons.mpr ⟨List.mem_of_getElem? qMs_42, List.forall_mem_cons.mpr ⟨List.mem_of_getElem? qMs_43, List.forall_mem_cons.mpr ⟨List.mem_of_getElem? qMs_44, List.forall_mem_cons.mpr ⟨List.mem_of_getElem? qMs_45, List.forall_mem_cons.mpr ⟨List.mem_of_getElem? qMs_46, List.forall_mem_cons.mpr ⟨List.mem_of_getElem? qMs_47, List.forall_mem_cons.mpr ⟨List.mem_of_getElem? qMs_48, List.forall_mem_cons.mpr ⟨List.mem_of_getElem? qMs_49, List.forall_mem_cons.mpr ⟨List.mem_of_getElem? qMs_50, List.forall_mem_cons.mpr ⟨List.mem_of_getElem? qMs_51, List.forall_mem_cons.mpr ⟨List.mem_of_getElem? qMs_52, List.forall_mem_cons.mpr ⟨List.mem_of_getElem? qMs_53, List.forall_mem_cons.mpr ⟨List.mem_of_getElem? qMs_54, List.forall_mem_cons.mpr ⟨List.mem_of_getElem? qMs_55, List.forall_mem_cons.mpr ⟨List.mem_of_getElem? qMs_56, List.forall_mem_cons.mpr ⟨List.mem_of_getElem? qMs_57, List.forall_mem_cons.mpr ⟨List.mem_of_getElem? qMs_58, List.forall_mem_cons.mpr ⟨List.mem_of_getElem? qMs_59, List.forall_mem_cons.mpr ⟨List.mem_of_getElem? qMs_60, List.forall_mem_cons.mpr ⟨List.mem_of_getElem? qMs_61, List.forall_mem_cons.mpr ⟨List.mem_of_getElem? qMs_62, List.forall_mem_cons.mpr ⟨List.mem_of_getElem? qMs_63, List.forall_mem_cons.mpr ⟨List.mem_of_getElem? qMs_64, List.forall_mem_cons.mpr ⟨List.mem_of_getElem? qMs_65, List.forall_mem_cons.mpr ⟨List.mem_of_getElem? qMs_66, List.forall_mem_cons.mpr ⟨List.mem_of_getElem? qMs_67, List.forall_mem_cons.mpr ⟨List.mem_of_getElem? qMs_68, List.forall_mem_cons.mpr ⟨List.mem_of_getElem? qMs_69, List.forall_mem_cons.mpr ⟨List.mem_of_getElem? qMs_70, List.forall_mem_cons.mpr ⟨List.mem_of_getElem? qMs_71, List.forall_mem_cons.mpr ⟨List.mem_of_getElem? qMs_72, List.forall_mem_cons.mpr ⟨List.mem_of_getElem? qMs_73, List.forall_mem_cons.mpr ⟨List.mem_of_getElem? qMs_74, List.forall_mem_cons.mpr ⟨List.mem_of_getElem? qMs_75, List.forall_mem_cons.mpr ⟨List.mem_of_getElem? qMs_76, List.forall_mem_cons.mpr ⟨List.mem_of_getElem? qMs_77, List.forall_mem_cons.mpr ⟨List.mem_of_getElem? qMs_78, List.forall_mem_cons.mpr ⟨List.mem_of_getElem? qMs_79, List.forall_mem_cons.mpr ⟨List.mem_of_getElem? qMs_80, List.forall_mem_cons.mpr ⟨List.mem_of_getElem? qMs_81, List.forall_mem_cons.mpr ⟨List.mem_of_getElem? qMs_82, List.forall_mem_cons.mpr ⟨List.mem_of_getElem? qMs_83, List.forall_mem_cons.mpr ⟨List.mem_of_getElem? qMs_84, List.forall_mem_cons.mpr ⟨List.mem_of_getElem? qMs_85, List.forall_mem_cons.mpr ⟨List.mem_of_getElem? qMs_86, List.forall_mem_cons.mpr ⟨List.mem_of_getElem? qMs_87, List.forall_mem_cons.mpr ⟨List.mem_of_getElem? qMs_88, List.forall_mem_cons.mpr ⟨List.mem_of_getElem? qMs_89, List.forall_mem_cons.mpr ⟨List.mem_of_getElem? qMs_90, List.forall_mem_cons.mpr ⟨List.mem_of_getElem? qMs_91, List.forall_mem_cons.mpr ⟨List.mem_of_getElem? qMs_92, List.forall_mem_cons.mpr ⟨List.mem_of_getElem? qMs_93, List.forall_mem_cons.mpr ⟨List.mem_of_getElem? qMs_94, List.forall_mem_cons.mpr ⟨List.mem_of_getElem? qMs_95, List.forall_mem_cons.mpr ⟨List.mem_of_getElem? qMs_96, List.forall_mem_cons.mpr ⟨List.mem_of_getElem? qMs_97, List.forall_mem_cons.mpr ⟨List.mem_of_getElem? qMs_98, List.forall_mem_cons.mpr ⟨List.mem_of_getElem? qMs_99, List.forall_mem_cons.mpr ⟨List.mem_of_getElem? qMs_100, List.forall_mem_cons.mpr ⟨List.mem_of_getElem? qMs_101, List.forall_mem_cons.mpr ⟨List.mem_of_getElem? qMs_102, fun _ h => absurd h List.not_mem_nil⟩⟩⟩⟩⟩⟩⟩⟩⟩⟩⟩⟩⟩⟩⟩⟩⟩⟩⟩⟩⟩⟩⟩⟩⟩⟩⟩⟩⟩⟩⟩⟩⟩⟩⟩⟩⟩⟩⟩⟩⟩⟩⟩⟩⟩⟩⟩⟩⟩⟩⟩⟩⟩⟩⟩⟩⟩⟩⟩⟩⟩⟩⟩⟩⟩⟩⟩⟩⟩⟩⟩⟩⟩⟩⟩⟩⟩⟩⟩⟩⟩⟩⟩⟩⟩⟩⟩⟩⟩⟩⟩⟩⟩⟩⟩⟩⟩⟩⟩⟩⟩⟩⟩
theorem qTT_all : qTT.all goodWord = true := by decide +kernel
theorem qTT_good : ∀ w ∈ qTT, goodWord w = true := fun w h => List.all_eq_true.mp qTT_all w h
def qNl : Cond → Bool
  | .fieldLinkNest .. => true
  | .methodLinkNest .. => true
  | _ => false
theorem qNN_all : qNN.all qNl = true := by decide +kernel
theorem qNN_warm : ∀ w ∈ qNN, ∀ {s U : State}, s.WarmedH U.vm → va_Nw w s → va_Nw w U := by
  intro w hw s U hW h
  have h1 := List.all_eq_true.mp qNN_all w hw
  cases w with
  | fieldLinkNest a i b n d h9 => exact va_Nw.warmF hW h
  | methodLinkNest a i x h9 => exact va_Nw.warmM hW h
  | _ => cases h1
theorem qCl_all : (qCl.all fun q => (u_ws q.1 q.2.1 q.2.2).all (fun w => decide (w ∈ qTT))) = true := by decide +kernel
theorem qCl_ws : ∀ (ci : Nat) (C : String) (T : u_T) (N : Nat), qCl[ci]? = some (C, T, N) → ∀ w ∈ u_ws C T N, w ∈ qTT := by
  intro ci C T N h w hw
  have h1 := List.all_eq_true.mp qCl_all _ (List.mem_of_getElem? h)
  exact of_decide_eq_true (List.all_eq_true.mp h1 w hw)
theorem qTy_all : ∀ ci, ci < 9 → ∀ k, k < ((qCl[ci]?).map (fun q => q.2.2)).getD 0 → parseFieldDescriptor (((qCl.getD ci ("", fun _ => ("", "", "", false), 0)).2.1 k).2.2.1) = some (qTy ci k) := by decide +kernel
theorem qTy_ok : ∀ (ci : Nat) (C : String) (T : u_T) (N : Nat), qCl[ci]? = some (C, T, N) → ∀ k, k < N → parseFieldDescriptor (T k).2.2.1 = some (qTy ci k) := by
  intro ci C T N h k hk
  have hc : ci < 9 := by
    rcases Nat.lt_or_ge ci 9 with q | q
    · exact q
    · rw [List.getElem?_eq_none (by exact q)] at h; cases h
  have h1 := qTy_all ci hc k (by rw [h]; exact hk)
  have e9 : qCl.getD ci ("", fun _ => ("", "", "", false), 0) = (C, T, N) := by simp [List.getD, h]
  rw [e9] at h1
  exact h1
theorem qNm_all : ∀ ci, ci < 9 → ∀ a, a < ((qCl[ci]?).map (fun q => q.2.2)).getD 0 → ∀ b, b < ((qCl[ci]?).map (fun q => q.2.2)).getD 0 → a ≠ b → ((qCl.getD ci ("", fun _ => ("", "", "", false), 0)).2.1 a).2.1 ≠ ((qCl.getD ci ("", fun _ => ("", "", "", false), 0)).2.1 b).2.1 := by decide +kernel
theorem qNm_ok : ∀ (ci : Nat) (C : String) (T : u_T) (N : Nat), qCl[ci]? = some (C, T, N) → ∀ a, a < N → ∀ b, b < N → a ≠ b → (T a).2.1 ≠ (T b).2.1 := by
  intro ci C T N h a ha b hb hab
  have hc : ci < 9 := by
    rcases Nat.lt_or_ge ci 9 with q | q
    · exact q
    · rw [List.getElem?_eq_none (by exact q)] at h; cases h
  have h1 := qNm_all ci hc a (by rw [h]; exact ha) b (by rw [h]; exact hb) hab
  have e9 : qCl.getD ci ("", fun _ => ("", "", "", false), 0) = (C, T, N) := by simp [List.getD, h]
  rw [e9] at h1
  exact h1
theorem qAr_i : Cond.arrayClass .int ∈ qTT := (List.mem_of_getElem? (i := 456) (by decide +kernel))
theorem qAr_z : Cond.arrayClass .boolean ∈ qTT := (List.mem_of_getElem? (i := 457) (by decide +kernel))
theorem qAr_l : Cond.arrayClass .long ∈ qTT := (List.mem_of_getElem? (i := 458) (by decide +kernel))
theorem qOb : Cond.instanceMethod objectInit ∈ qTT := (List.mem_of_getElem? (i := 455) (by decide +kernel))
theorem qObC : ((objectInit, (⟨#[0xb1]⟩ : ByteArray), 1, none) : qY) ∈ qMs := (List.mem_of_getElem? (i := 100) rfl)
def qCol (j : Nat) : Int64 := [(-6148914691236517206 : Int64), (-3689348814741910324 : Int64), (-1085102592571150096 : Int64), (-71777214294589696 : Int64), (-281470681808896 : Int64), (-4294967296 : Int64)].getD j 0
/-- a static of references that nobody writes, and where it lies -/
def qZr (C n d : String) (A : Nat → Prop) (U : State) (H : Heap) : Prop := va_Zq C n d A U H ∧ ∃ (c : ClassId) (k : Class) (i : Nat) (f : Field) (a : Nat) (cell : Cell), U.vm.findClass C = some c ∧ U.fieldFound? C n d = some (c, k, i, f) ∧ f.isStatic = true ∧ k.statics = some a ∧ H[a]? = some cell ∧ cell.vm.isStatics = true ∧ cell.cls = c ∧ f.slot < cell.slots.size ∧ k.staticTypes[f.slot]? = some f.type ∧ ¬ A a
theorem qZr.moved {C n d : String} {A : Nat → Prop} {u U : State} {H : Heap} (hvm : u.vm.Alike U.vm) (h : qZr C n d A u H) : qZr C n d A U H := by
  obtain ⟨h0, c, k, i, f, a, cell, h1, h2, h3, h4, h5, h6, h7, h8, h9, h10⟩ := h
  obtain ⟨k', hi', he⟩ := State.fieldFound?_setVm hvm h2
  exact ⟨va_Zq.moved hvm h0, c, k', i, f, a, cell, by rw [hvm.findClass]; exact h1, hi', h3, by rw [he]; exact h4, h5, h6, h7, h8, by rw [he]; exact h9, h10⟩
theorem qZr.kept {C n d : String} {A : Nat → Prop} {U : State} {H H1 : Heap} (h : qZr C n d A U H) (hq : ∀ a : Nat, a < H.size → ¬ A a → H1[a]? = H[a]?) : qZr C n d A U H1 := by
  obtain ⟨h0, c, k, i, f, a, cell, h1, h2, h3, h4, h5, h6, h7, h8, h9, h10⟩ := h
  exact ⟨h0.kept hq, c, k, i, f, a, cell, h1, h2, h3, h4, by rw [hq a (Array.getElem?_eq_some_iff.mp h5).1 h10]; exact h5, h6, h7, h8, h9, h10⟩
/-- what the statics and the old cells hold all along -/
def qSt (g : qG) (U : State) (H : Heap) : Prop :=
  (∀ Y ∈ qMs, (Cond.code Y.1 Y.2.1 Y.2.2.1 Y.2.2.2).before #[] U = true) ∧
  qZr "java/lang/Throwable" "UNASSIGNED_STACK" "[Ljava/lang/StackTraceElement;" (qA g) U H ∧ qZr "java/lang/Throwable" "SUPPRESSED_SENTINEL" "Ljava/util/List;" (qA g) U H ∧
  (∀ q ∈ qSr, ∃ sa : Nat, vk_R q.1 q.2.1 q.2.2 sa U) ∧
  va_Z "FlushProofs" "COLUMNS" "[J" (.ref g.2.2.2.2) (qA g) U H ∧ va_T .long g.2.2.2.2 6 (fun j => .long (qCol j)) (qA g) U H ∧
  va_X g.2.2.2.1.1 g.2.2.2.1.2.1 g.2.2.2.1.2.2 U H ∧ ¬ qA g g.2.2.2.1.1
theorem qSt.moved {g : qG} {s U : State} {H : Heap} (hW : s.WarmedH U.vm) (h : qSt g s H) : qSt g U H :=
  ⟨fun Y hY => word_at hW (Or.inl rfl) (h.1 Y hY), qZr.moved hW.alike h.2.1, qZr.moved hW.alike h.2.2.1, fun q hq => (h.2.2.2.1 q hq).elim fun sa hs => ⟨sa, vk_R.warm hW hs⟩, va_Z.moved hW.alike h.2.2.2.2.1, va_T.moved hW.alike h.2.2.2.2.2.1, va_X.moved hW.alike h.2.2.2.2.2.2.1, h.2.2.2.2.2.2.2⟩
theorem va_X.at {b L : Nat} {xs : Nat → Int32} {U : State} {H : Heap} (h : va_X b L xs U H) : b < H.size := by
  obtain ⟨scr, h1, -⟩ := h
  exact (Array.getElem?_eq_some_iff.mp h1).1
theorem qSt.kept {g : qG} {U : State} {H H1 : Heap} (h : qSt g U H) (hq : ∀ a : Nat, a < H.size → ¬ qA g a → H1[a]? = H[a]?) : qSt g U H1 :=
  ⟨h.1, h.2.1.kept hq, h.2.2.1.kept hq, h.2.2.2.1, h.2.2.2.2.1.kept hq, h.2.2.2.2.2.1.kept hq, h.2.2.2.2.2.2.1.kept (hq _ h.2.2.2.2.2.2.1.at h.2.2.2.2.2.2.2), h.2.2.2.2.2.2.2⟩
end
section
/-! THE PURE MACHINE. A memory M: how many cells, their kinds (0 int[], 1 boolean[], 2 long[], 3 + ci an object of class ci of qCl), lengths, ints, longs, fields, and how many cells and slots were made. A reference is a cell's number; the script is .retAddr 0, a table of longs .retAddr 1. g: what stays in a run. EW: the machine goes on from here to the end that Z names. -/
abbrev PM : Type := Nat × (Nat → Nat) × (Nat → Nat) × (Nat → Nat → Int32) × (Nat → Nat → Int64) × (Nat → Nat → Value) × Nat × Nat
def mS (M : PM) : Nat := M.1
def mK (M : PM) : Nat → Nat := M.2.1
def mN (M : PM) : Nat → Nat := M.2.2.1
def mI (M : PM) : Nat → Nat → Int32 := M.2.2.2.1
def mL (M : PM) : Nat → Nat → Int64 := M.2.2.2.2.1
def mF (M : PM) : Nat → Nat → Value := M.2.2.2.2.2.1
def mC (M : PM) : Nat := M.2.2.2.2.2.2.1
def mT (M : PM) : Nat := M.2.2.2.2.2.2.2
def up2 {α : Type} (f : Nat → Nat → α) (a j : Nat) (v : α) : Nat → Nat → α := fun a' j' => if a' = a ∧ j' = j then v else f a' j'
def sI (M : PM) (a j : Nat) (v : Int32) : PM := (mS M, mK M, mN M, up2 (mI M) a j v, mL M, mF M, mC M, mT M)
def sL (M : PM) (a j : Nat) (v : Int64) : PM := (mS M, mK M, mN M, mI M, up2 (mL M) a j v, mF M, mC M, mT M)
def sF (M : PM) (a j : Nat) (v : Value) : PM := (mS M, mK M, mN M, mI M, mL M, up2 (mF M) a j v, mC M, mT M)
def nA (M : PM) (kd n : Nat) : PM := (mS M + 1, va_up (mK M) (mS M) kd, va_up (mN M) (mS M) n, va_up (mI M) (mS M) (fun _ => 0), va_up (mL M) (mS M) (fun _ => 0), mF M, mC M + 1, mT M + n)
def qNf (ci : Nat) : Nat := ((qCl[ci]?).map (fun q => q.2.2)).getD 0
def nO (M : PM) (ci : Nat) : PM := (mS M + 1, va_up (mK M) (mS M) (ci + 3), mN M, mI M, mL M, va_up (mF M) (mS M) (qDf ci), mC M + 1, mT M + qNf ci)
def nX (M : PM) : PM := (mS M, mK M, mN M, mI M, mL M, mF M, mC M + 1, mT M + 6)
def rV (g : qG) (ad : Nat → Nat) : Value → Value
  | .ref k => .ref (ad k)
  | .retAddr 0 => .ref g.2.2.2.1.1
  | .retAddr (_ + 1) => .ref g.2.2.2.2
  | .int v => .int v
  | .long v => .long v
  | .float v => .float v
  | .double v => .double v
  | .null => .null
theorem rV_cat (g : qG) (ad : Nat → Nat) (v : Value) : (rV g ad v).category = v.category := by
  cases v with
  | retAddr n => cases n <;> rfl
  | _ => rfl
def wfV (n : Nat) : Value → Prop
  | .ref k => k < n
  | _ => True
def wfS (n : Nat) : List Value → Prop
  | [] => True
  | v :: st => wfV n v ∧ wfS n st
def wfL (n : Nat) (L : List (Nat × Value)) : Prop := ∀ q ∈ L, wfV n q.2
def wfM (M : PM) : Prop := (∀ k, k < mS M → 3 ≤ mK M k → ∀ j, wfV (mS M) (mF M k j)) ∧ ∀ k, mN M k < 2 ^ 31
theorem wfV_mono {n n' : Nat} (h : n ≤ n') : ∀ {v : Value}, wfV n v → wfV n' v := by
  intro v hv
  cases v <;> first | trivial | exact Nat.lt_of_lt_of_le hv h
theorem wfS_mono {n n' : Nat} (h : n ≤ n') : ∀ {st : List Value}, wfS n st → wfS n' st := by
  intro st
  induction st with
  | nil => exact fun _ => trivial
  | cons v t ih => exact fun hh => ⟨wfV_mono h hh.1, ih hh.2⟩
theorem wfL_mono {n n' : Nat} (h : n ≤ n') {L : List (Nat × Value)} (hL : wfL n L) : wfL n' L := fun q hq => wfV_mono h (hL q hq)
theorem rV_ext {g : qG} {ad ad' : Nat → Nat} {n : Nat} (h : ∀ k, k < n → ad' k = ad k) : ∀ {v : Value}, wfV n v → rV g ad' v = rV g ad v := by
  intro v hv
  cases v with
  | ref k => exact congrArg Value.ref (h k hv)
  | retAddr n => cases n <;> rfl
  | _ => rfl
theorem rS_ext {g : qG} {ad ad' : Nat → Nat} {n : Nat} (h : ∀ k, k < n → ad' k = ad k) : ∀ {st : List Value}, wfS n st → st.map (rV g ad') = st.map (rV g ad) := by
  intro st
  induction st with
  | nil => exact fun _ => rfl
  | cons v t ih => exact fun hh => by rw [List.map_cons, List.map_cons, rV_ext h hh.1, ih hh.2]
abbrev rL (g : qG) (ad : Nat → Nat) (L : List (Nat × Value)) : List (Nat × Value) := L.map (fun q => (q.1, rV g ad q.2))
theorem rL_ext {g : qG} {ad ad' : Nat → Nat} {n : Nat} (h : ∀ k, k < n → ad' k = ad k) {L : List (Nat × Value)} (hL : wfL n L) : rL g ad' L = rL g ad L :=
  List.map_congr_left fun q hq => by rw [rV_ext h (hL q hq)]
def rE (g : qG) (ad : Nat → Nat) (M : PM) (k : Nat) : va_E :=
  match mK M k with
  | 0 => .inl (g.2.2.1.1, mN M k, .inl (mI M k))
  | 1 => .inl (g.2.2.1.2.1, mN M k, .inl (mI M k))
  | 2 => .inl (g.2.2.1.2.2, mN M k, .inr (.inl (mL M k)))
  | ci + 3 => .inr (ci, (List.range (qNf ci)).map (fun j => rV g ad (mF M k j)))
theorem rE_0 {g : qG} {ad : Nat → Nat} {M : PM} {k : Nat} (h : mK M k = 0) : rE g ad M k = .inl (g.2.2.1.1, mN M k, .inl (mI M k)) := by unfold rE; rw [h]
theorem rE_1 {g : qG} {ad : Nat → Nat} {M : PM} {k : Nat} (h : mK M k = 1) : rE g ad M k = .inl (g.2.2.1.2.1, mN M k, .inl (mI M k)) := by unfold rE; rw [h]
theorem rE_2 {g : qG} {ad : Nat → Nat} {M : PM} {k : Nat} (h : mK M k = 2) : rE g ad M k = .inl (g.2.2.1.2.2, mN M k, .inr (.inl (mL M k))) := by unfold rE; rw [h]
theorem rE_3 {g : qG} {ad : Nat → Nat} {M : PM} {k ci : Nat} (h : mK M k = ci + 3) : rE g ad M k = .inr (ci, (List.range (qNf ci)).map (fun j => rV g ad (mF M k j))) := by unfold rE; rw [h]
theorem rE_ext {g : qG} {ad ad' : Nat → Nat} {M : PM} (hw : wfM M) (h : ∀ k, k < mS M → ad' k = ad k) {k : Nat} (hk : k < mS M) : rE g ad' M k = rE g ad M k := by
  rcases Nat.lt_or_ge (mK M k) 3 with h3 | h3
  · rcases (show mK M k = 0 ∨ mK M k = 1 ∨ mK M k = 2 by omega) with e | e | e
    · rw [rE_0 e, rE_0 e]
    · rw [rE_1 e, rE_1 e]
    · rw [rE_2 e, rE_2 e]
  · obtain ⟨ci, e⟩ : ∃ ci, mK M k = ci + 3 := ⟨mK M k - 3, by omega⟩
    rw [rE_3 e, rE_3 e]
    have : (fun j => rV g ad' (mF M k j)) = (fun j => rV g ad (mF M k j)) := funext fun j => rV_ext h (hw.1 k hk h3 j)
    rw [this]
def rW (g : qG) (ad : Nat → Nat) (M : PM) : va_W := (List.range (mS M)).map (fun k => (ad k, rE g ad M k))
theorem rW_get {g : qG} {ad : Nat → Nat} {M : PM} {k : Nat} (h : k < mS M) : (rW g ad M)[k]? = some (ad k, rE g ad M k) := by
  simp [rW, h]
theorem rW_set {g : qG} {ad : Nat → Nat} {M M' : PM} {k : Nat} (hs : mS M' = mS M) (ho : ∀ j, j ≠ k → rE g ad M' j = rE g ad M j) : (rW g ad M).set k (ad k, rE g ad M' k) = rW g ad M' := by
  apply List.ext_getElem?
  intro i
  rw [List.getElem?_set]
  by_cases hi : i < mS M
  · by_cases e : k = i
    · subst e
      have h1 : k < (rW g ad M).length := by simpa [rW] using hi
      rw [if_pos rfl, if_pos h1, rW_get (by rw [hs]; exact hi)]
    · rw [if_neg e, rW_get hi, rW_get (by rw [hs]; exact hi), ho i (fun z => e z.symm)]
  · have h1 : (rW g ad M)[i]? = none := by simp [rW]; omega
    have h2 : (rW g ad M')[i]? = none := by simp [rW]; omega
    have h3 : ¬ i < (rW g ad M).length := by simpa [rW] using hi
    by_cases e : k = i
    · subst e
      rw [if_pos rfl, if_neg h3, h2]
    · rw [if_neg e, h1, h2]
theorem rW_push {g : qG} {ad ad' : Nat → Nat} {M M' : PM} {q : Nat} (hs : mS M' = mS M + 1) (hq : ad' (mS M) = q) (ho : ∀ j, j < mS M → ad' j = ad j ∧ rE g ad' M' j = rE g ad M j) : rW g ad M ++ [(q, rE g ad' M' (mS M))] = rW g ad' M' := by
  unfold rW
  rw [hs, List.range_succ, List.map_append, List.map_cons, List.map_nil, hq]
  congr 1
  apply List.map_congr_left
  intro j hj
  obtain ⟨h1, h2⟩ := ho j (List.mem_range.mp hj)
  rw [h1, h2]
def qR (g : qG) (ad : Nat → Nat) (M : PM) (H : Heap) : Prop := va_P g.2.1 qCl (rW g ad M) H ∧ va_D (qA g) (rW g ad M)
/-- what holds of the tables and of the old heap all along -/
def qF (g : qG) (U : State) (H : Heap) : Prop := (∀ w ∈ qTT, w.before #[] U = true) ∧ (∀ w ∈ qNN, va_Nw w U) ∧ va_K g.2.1 qCl (qT g) U ∧ qSt g U H
theorem qF.moved {g : qG} {s U : State} {H : Heap} (hW : s.WarmedH U.vm) (h : qF g s H) : qF g U H :=
  ⟨fun w hw => word_at hW (good_of_word (qTT_good w hw)) (h.1 w hw), fun w hw => qNN_warm w hw hW (h.2.1 w hw), va_K.moved hW.alike h.2.2.1, qSt.moved hW h.2.2.2⟩
theorem qF.kept {g : qG} {U : State} {H H1 : Heap} (h : qF g U H) (hq : ∀ a : Nat, a < H.size → ¬ qA g a → H1[a]? = H[a]?) : qF g U H1 := ⟨h.1, h.2.1, h.2.2.1, qSt.kept h.2.2.2 hq⟩
theorem qF.word {g : qG} {U : State} {H : Heap} (h : qF g U H) {w : Cond} (hw : w ∈ qTT) (a : Array Value) : w.before a U = true := word_at (State.WarmedH.refl U) (good_of_word (qTT_good w hw)) (h.1 w hw)
abbrev qX : Type := Program × Launch × Env × Room × State × MethodId × Array Value × List Frame × Method × Code
abbrev qZ : Type := (Nat → Nat) × PM × (Option Value ⊕ String) × PM × Nat × Nat
abbrev xp (X : qX) : Program := X.1
abbrev xl (X : qX) : Launch := X.2.1
abbrev xe (X : qX) : Env := X.2.2.1
abbrev xR (X : qX) : Room := X.2.2.2.1
abbrev xs (X : qX) : State := X.2.2.2.2.1
abbrev xm (X : qX) : MethodId := X.2.2.2.2.2.1
abbrev xa (X : qX) : Array Value := X.2.2.2.2.2.2.1
abbrev xb (X : qX) : List Frame := X.2.2.2.2.2.2.2.1
abbrev xh (X : qX) : Method := X.2.2.2.2.2.2.2.2.1
abbrev xc (X : qX) : Code := X.2.2.2.2.2.2.2.2.2
abbrev za (Z : qZ) : Nat → Nat := Z.1
abbrev z0 (Z : qZ) : PM := Z.2.1
abbrev zr (Z : qZ) : Option Value ⊕ String := Z.2.2.1
abbrev zf (Z : qZ) : PM := Z.2.2.2.1
abbrev zn (Z : qZ) : Nat := Z.2.2.2.2.1
abbrev zl (Z : qZ) : Nat := Z.2.2.2.2.2
/-- how a method that began in st with memory M0 has ended: res, the memory then is Mf -/
def qEd (g : qG) (ad0 : Nat → Nat) (M0 : PM) (res : Option Value ⊕ String) (Mf : PM) (st : State) (o : Outcome) (t : State) : Prop :=
  ((∃ (v : Option Value) (ad : Nat → Nat), res = .inl v ∧ o = .returned (v.map (rV g ad)) ∧ (∀ k, k < mS M0 → ad k = ad0 k) ∧ qR g ad Mf t.heap ∧ wfM Mf ∧ wfS (mS Mf) v.toList) ∧ va_F (qA g) st t ∧ ∃ L, FrameEnd st o t L (mC Mf - mC M0) (mT Mf - mT M0) ∧ ∀ q ∈ L, qA g q.base) ∨
  (∃ (E : String) (q : Addr) (ce : Cell) (L : List Loc) (ad : Nat → Nat), res = .inr E ∧ o = .threw q ∧ (∀ k, k < mS M0 → ad k = ad0 k) ∧ qR g ad Mf t.heap ∧ wfM Mf ∧ va_F (qA g) st t ∧ t.heap[q]? = some ce ∧ ce.vm = .none ∧ st.vm.findClass E = some ce.cls ∧ st.WarmedH t.vm ∧ st.sameButNew ({ t with vm := st.vm } : State) L (mC Mf - mC M0) (mT Mf - mT M0) ∧ ∀ z ∈ L, qA g z.base)
def qOk (Y : qY) (g : qG) (X : qX) (Z : qZ) : Prop :=
  (xp X).tables.exec = Jvm.exec ∧ (xc X).code = Y.2.1 ∧ (xc X).maxLocals = Y.2.2.1 ∧ (xs X).vm.findClass Y.1.cls = some (xm X).cls ∧ (xh X).sig.returnType = Y.2.2.2 ∧ (xh X).locks = false ∧ (∀ x ∈ (xc X).exceptionTable.toList, False) ∧ (xh X).name = Y.1.name ∧ (xl X).stackTraces = false ∧ qF g (xs X) (xs X).heap ∧ g.1 ≤ (xs X).heap.size ∧ zn Z ≤ (xR X).frames ∧ zl Z ≤ (xR X).locals ∧ mC (zf Z) - mC (z0 Z) ≤ (xR X).cells ∧ mT (zf Z) - mT (z0 Z) ≤ (xR X).slots
def qIn (Y : qY) (g : qG) (X : qX) (Z : qZ) (L : List (Nat × Value)) (M : PM) (ad : Nat → Nat) (H : Heap) (locs : List Loc) (cells slots : Nat) (ls : Array Slot) : Prop :=
  (mS (z0 Z) ≤ mS M ∧ ∀ k, k < mS (z0 Z) → ad k = za Z k) ∧ qR g ad M H ∧ wfM M ∧ wfL (mS M) L ∧ va_S (qA g) (xs X).heap H locs ∧ lv_has ls Y.2.2.1 (rL g ad L) ∧ cells + mC (z0 Z) = mC M ∧ slots + mT (z0 Z) = mT M
abbrev qW (g : qG) (X : qX) (Z : qZ) (H : Heap) (locs : List Loc) (cells slots : Nat) (fr : JFrame) : Prop :=
  W (xp X) (xl X) (xe X) (xR X) (xs X) (xm X) (xa X) (xb X) (xh X) (xc X) H locs cells slots (fun t => ∃ o, t.status = .running ∧ Ended t (xb X) o ∧ qEd g (za Z) (z0 Z) (zr Z) (zf Z) (xs X) o t) fr
def EW (Y : qY) (g : qG) (X : qX) (Z : qZ) (pc : Nat) (L : List (Nat × Value)) (st : List Value) (M : PM) : Prop :=
  (mC M ≤ mC (zf Z) ∧ mT M ≤ mT (zf Z) ∧ mS M ≤ mS (zf Z)) ∧ (qOk Y g X Z → ∀ (ad : Nat → Nat) (H : Heap) (locs : List Loc) (cells slots : Nat) (ls : Array Slot), qIn Y g X Z L M ad H locs cells slots ls → wfS (mS M) st → qW g X Z H locs cells slots (F0 (xm X) pc ls (st.map (rV g ad))))
def qLk : List (Nat × Value) → Nat → Option Value
  | [], _ => none
  | q :: L, i => cond (Nat.beq q.1 i) (some q.2) (qLk L i)
theorem qLk_mem {i : Nat} {v : Value} : ∀ {L : List (Nat × Value)}, qLk L i = some v → (i, v) ∈ L := by
  intro L
  induction L with
  | nil => intro h; cases h
  | cons q t ih =>
    intro h
    unfold qLk at h
    cases hb : Nat.beq q.1 i with
    | true =>
      rw [hb] at h
      have e1 : q.1 = i := Nat.eq_of_beq_eq_true hb
      have e2 : q.2 = v := Option.some.inj h
      subst e1; subst e2
      exact List.mem_cons_self
    | false =>
      rw [hb] at h
      exact List.mem_cons_of_mem _ (ih h)
theorem rL_mem {g : qG} {ad : Nat → Nat} {L : List (Nat × Value)} {ls : Array Slot} {n i : Nat} {v : Value} (h : lv_has ls n (rL g ad L)) (hv : qLk L i = some v) : ls[i]? = some (.val (rV g ad v)) :=
  h.2.2 (i, rV g ad v) (List.mem_map.mpr ⟨(i, v), qLk_mem hv, rfl⟩)
def qS1 (i : Nat) (v : Value) (L : List (Nat × Value)) : List (Nat × Value) := (i, v) :: L.filter (fun q => !(q.1 == i) && !(q.1 + 1 == i && q.2.category == 2))
def qS2 (i : Nat) (v : Value) (L : List (Nat × Value)) : List (Nat × Value) := (i, v) :: L.filter (fun q => !(q.1 == i) && (!(q.1 == i + 1) && !(q.1 + 1 == i && q.2.category == 2)))
theorem rL_S1 (g : qG) (ad : Nat → Nat) (i : Nat) (v : Value) (L : List (Nat × Value)) : (i, rV g ad v) :: (rL g ad L).filter (fun q => !(q.1 == i) && !(q.1 + 1 == i && q.2.category == 2)) = rL g ad (qS1 i v L) := by
  simp only [rL, qS1, List.map_cons, List.filter_map]
  congr 2
  apply List.filter_congr
  intro q _
  simp [rV_cat]
theorem rL_S2 (g : qG) (ad : Nat → Nat) (i : Nat) (v : Value) (L : List (Nat × Value)) : (i, rV g ad v) :: (rL g ad L).filter (fun q => !(q.1 == i) && (!(q.1 == i + 1) && !(q.1 + 1 == i && q.2.category == 2))) = rL g ad (qS2 i v L) := by
  simp only [rL, qS2, List.map_cons, List.filter_map]
  congr 2
  apply List.filter_congr
  intro q _
  simp [rV_cat]
theorem pick_mem {L L' : List (Nat × Value)} {ks : List Nat} (h : lv_pick L ks = L') : ∀ q ∈ L', q ∈ L := by
  intro q hq
  rw [← h] at hq
  obtain ⟨k, -, hk⟩ := List.mem_filterMap.mp hq
  exact List.mem_of_getElem? hk
theorem rL_sub {g : qG} {ad : Nat → Nat} {L L' : List (Nat × Value)} {ls : Array Slot} {n : Nat} (h : lv_has ls n (rL g ad L)) (hs : ∀ q ∈ L', q ∈ L) : lv_has ls n (rL g ad L') := by
  refine ⟨h.1, h.2.1, fun q hq => ?_⟩
  obtain ⟨z, hz, rfl⟩ := List.mem_map.mp hq
  exact h.2.2 _ (List.mem_map.mpr ⟨z, hs z hz, rfl⟩)
theorem qS1_mem {n i : Nat} {v : Value} {L : List (Nat × Value)} (hv : wfV n v) (hL : wfL n L) : wfL n (qS1 i v L) := by
  intro q hq
  rcases List.mem_cons.mp hq with h | h
  · rw [h]; exact hv
  · exact hL q (List.mem_filter.mp h).1
theorem qS2_mem {n i : Nat} {v : Value} {L : List (Nat × Value)} (hv : wfV n v) (hL : wfL n L) : wfL n (qS2 i v L) := by
  intro q hq
  rcases List.mem_cons.mp hq with h | h
  · rw [h]; exact hv
  · exact hL q (List.mem_filter.mp h).1
section EWR
variable {Y : qY} {g : qG} {X : qX} {Z : qZ} {pc : Nat} {L L' : List (Nat × Value)} {st : List Value} {M : PM}
/-- fewer locals, in another order -/
theorem ew_pick (ks : List Nat) (hl : lv_pick L ks = L') (k : EW Y g X Z pc L' st M) : EW Y g X Z pc L st M :=
  ⟨k.1, fun ok ad H locs cells slots ls I hs => k.2 ok ad H locs cells slots ls ⟨I.1, I.2.1, I.2.2.1, fun q hq => I.2.2.2.1 q (pick_mem hl q hq), I.2.2.2.2.1, rL_sub I.2.2.2.2.2.1 (pick_mem hl), I.2.2.2.2.2.2⟩ hs⟩
theorem ew_op {pc' : Nat} {st' : List Value} (k : EW Y g X Z pc' L st' M) (hw : wfM M → wfL (mS M) L → wfS (mS M) st → wfS (mS M) st')
    (hop : qOk Y g X Z → ∀ (ad : Nat → Nat) (H : Heap) (locs : List Loc) (cells slots : Nat) (ls : Array Slot), lv_has ls Y.2.2.1 (rL g ad L) → qW g X Z H locs cells slots (F0 (xm X) pc' ls (st'.map (rV g ad))) → qW g X Z H locs cells slots (F0 (xm X) pc ls (st.map (rV g ad)))) : EW Y g X Z pc L st M :=
  ⟨k.1, fun ok ad H locs cells slots ls I hs => hop ok ad H locs cells slots ls I.2.2.2.2.2.1 (k.2 ok ad H locs cells slots ls I (hw I.2.2.1 I.2.2.2.1 hs))⟩
theorem ew_br {c : Prop} {p1 p2 : Nat} {st' : List Value} (kt : c → EW Y g X Z p1 L st' M) (kf : ¬ c → EW Y g X Z p2 L st' M) (hw : wfS (mS M) st → wfS (mS M) st')
    (hop : qOk Y g X Z → ∀ (ad : Nat → Nat) (H : Heap) (locs : List Loc) (cells slots : Nat) (ls : Array Slot), (c → qW g X Z H locs cells slots (F0 (xm X) p1 ls (st'.map (rV g ad)))) → (¬ c → qW g X Z H locs cells slots (F0 (xm X) p2 ls (st'.map (rV g ad)))) → qW g X Z H locs cells slots (F0 (xm X) pc ls (st.map (rV g ad)))) : EW Y g X Z pc L st M :=
  ⟨(Classical.em c).elim (fun h => (kt h).1) (fun h => (kf h).1), fun ok ad H locs cells slots ls I hs => hop ok ad H locs cells slots ls (fun h => (kt h).2 ok ad H locs cells slots ls I (hw hs)) (fun h => (kf h).2 ok ad H locs cells slots ls I (hw hs))⟩

theorem ew_iconst {n : Int} (v : Int32) (hd : decode Y.2.1 pc = .ok (.iconst n, 1)) (hv : Int32.ofInt n = v) (k : EW Y g X Z (pc + 1) L (.int v :: st) M) : EW Y g X Z pc L st M :=
  ew_op k (fun _ _ h => ⟨trivial, h⟩) (fun ok ad H locs cells slots ls _ K => lv_iconst ok.1 ok.2.1 hd hv K)
theorem ew_bipush {n : Int} (v : Int32) (hd : decode Y.2.1 pc = .ok (.bipush n, 2)) (hv : (Int8.ofInt n).toInt32 = v) (k : EW Y g X Z (pc + 2) L (.int v :: st) M) : EW Y g X Z pc L st M :=
  ew_op k (fun _ _ h => ⟨trivial, h⟩) (fun ok ad H locs cells slots ls _ K => lv_bipush ok.1 ok.2.1 hd hv K)
theorem ew_sipush {n : Int} (v : Int32) (hd : decode Y.2.1 pc = .ok (.sipush n, 3)) (hv : (Int16.ofInt n).toInt32 = v) (k : EW Y g X Z (pc + 3) L (.int v :: st) M) : EW Y g X Z pc L st M :=
  ew_op k (fun _ _ h => ⟨trivial, h⟩) (fun ok ad H locs cells slots ls _ K => lv_sipush ok.1 ok.2.1 hd hv K)
theorem ew_lconst {n : Fin 2} (v : Int64) (hd : decode Y.2.1 pc = .ok (.lconst n, 1)) (hv : Int64.ofNat (n : Nat) = v) (k : EW Y g X Z (pc + 1) L (.long v :: st) M) : EW Y g X Z pc L st M :=
  ew_op k (fun _ _ h => ⟨trivial, h⟩) (fun ok ad H locs cells slots ls _ K => lv_lconst ok.1 ok.2.1 hd hv K)
theorem ew_iload_n {n : Fin 4} {x : Int32} (i : Nat) (hd : decode Y.2.1 pc = .ok (.iload_n n, 1)) (hi : (n : Nat) = i) (hx : qLk L i = some (.int x)) (k : EW Y g X Z (pc + 1) L (.int x :: st) M) : EW Y g X Z pc L st M :=
  ew_op k (fun _ hL h => ⟨trivial, h⟩) (fun ok ad H locs cells slots ls hl K => lv_iload_n ok.1 ok.2.1 hd hi (rL_mem hl hx) K)
theorem ew_iload {i : Nat} {x : Int32} (hd : decode Y.2.1 pc = .ok (.iload i, 2)) (hx : qLk L i = some (.int x)) (k : EW Y g X Z (pc + 2) L (.int x :: st) M) : EW Y g X Z pc L st M :=
  ew_op k (fun _ hL h => ⟨trivial, h⟩) (fun ok ad H locs cells slots ls hl K => lv_iload ok.1 ok.2.1 hd (rL_mem hl hx) K)
theorem ew_lload_n {n : Fin 4} {x : Int64} (i : Nat) (hd : decode Y.2.1 pc = .ok (.lload_n n, 1)) (hi : (n : Nat) = i) (hx : qLk L i = some (.long x)) (k : EW Y g X Z (pc + 1) L (.long x :: st) M) : EW Y g X Z pc L st M :=
  ew_op k (fun _ hL h => ⟨trivial, h⟩) (fun ok ad H locs cells slots ls hl K => lv_lload_n ok.1 ok.2.1 hd hi (rL_mem hl hx) K)
theorem ew_lload {i : Nat} {x : Int64} (hd : decode Y.2.1 pc = .ok (.lload i, 2)) (hx : qLk L i = some (.long x)) (k : EW Y g X Z (pc + 2) L (.long x :: st) M) : EW Y g X Z pc L st M :=
  ew_op k (fun _ hL h => ⟨trivial, h⟩) (fun ok ad H locs cells slots ls hl K => lv_lload ok.1 ok.2.1 hd (rL_mem hl hx) K)
theorem ew_aload_n {n : Fin 4} {x : Nat} (i : Nat) (hd : decode Y.2.1 pc = .ok (.aload_n n, 1)) (hi : (n : Nat) = i) (hx : qLk L i = some (.ref x)) (k : EW Y g X Z (pc + 1) L (.ref x :: st) M) : EW Y g X Z pc L st M :=
  ew_op k (fun _ hL h => ⟨hL (i, .ref x) (qLk_mem hx), h⟩) (fun ok ad H locs cells slots ls hl K => lv_aload_n ok.1 ok.2.1 hd hi (rL_mem hl hx) K)
theorem ew_aload {i : Nat} {x : Nat} (hd : decode Y.2.1 pc = .ok (.aload i, 2)) (hx : qLk L i = some (.ref x)) (k : EW Y g X Z (pc + 2) L (.ref x :: st) M) : EW Y g X Z pc L st M :=
  ew_op k (fun _ hL h => ⟨hL (i, .ref x) (qLk_mem hx), h⟩) (fun ok ad H locs cells slots ls hl K => lv_aload ok.1 ok.2.1 hd (rL_mem hl hx) K)
theorem ew_aload_s {n : Fin 4} (i : Nat) (hd : decode Y.2.1 pc = .ok (.aload_n n, 1)) (hi : (n : Nat) = i) (hx : qLk L i = some (.retAddr 0)) (k : EW Y g X Z (pc + 1) L (.retAddr 0 :: st) M) : EW Y g X Z pc L st M :=
  ew_op k (fun _ _ h => ⟨trivial, h⟩) (fun ok ad H locs cells slots ls hl K => lv_aload_n ok.1 ok.2.1 hd hi (rL_mem hl hx) K)
theorem ew_istore_n {n : Fin 4} {x : Int32} (i : Nat) (ks : List Nat) (hd : decode Y.2.1 pc = .ok (.istore_n n, 1)) (hi : (n : Nat) = i) (hn : i < Y.2.2.1) (hl : lv_pick (qS1 i (.int x) L) ks = L') (k : EW Y g X Z (pc + 1) L' st M) : EW Y g X Z pc L (.int x :: st) M :=
  ⟨k.1, fun ok ad H locs cells slots ls I hs => lv_istore_n ok.1 ok.2.1 hd hi I.2.2.2.2.2.1 hn (rL_S1 g ad i (.int x) L) (fun ls' h' => k.2 ok ad H locs cells slots ls' ⟨I.1, I.2.1, I.2.2.1, fun q hq => qS1_mem hs.1 I.2.2.2.1 q (pick_mem hl q hq), I.2.2.2.2.1, rL_sub h' (pick_mem hl), I.2.2.2.2.2.2⟩ hs.2)⟩
theorem ew_istore {x : Int32} {i : Nat} (ks : List Nat) (hd : decode Y.2.1 pc = .ok (.istore i, 2)) (hn : i < Y.2.2.1) (hl : lv_pick (qS1 i (.int x) L) ks = L') (k : EW Y g X Z (pc + 2) L' st M) : EW Y g X Z pc L (.int x :: st) M :=
  ⟨k.1, fun ok ad H locs cells slots ls I hs => lv_istore ok.1 ok.2.1 hd I.2.2.2.2.2.1 hn (rL_S1 g ad i (.int x) L) (fun ls' h' => k.2 ok ad H locs cells slots ls' ⟨I.1, I.2.1, I.2.2.1, fun q hq => qS1_mem hs.1 I.2.2.2.1 q (pick_mem hl q hq), I.2.2.2.2.1, rL_sub h' (pick_mem hl), I.2.2.2.2.2.2⟩ hs.2)⟩
theorem ew_lstore_n {n : Fin 4} {x : Int64} (i : Nat) (ks : List Nat) (hd : decode Y.2.1 pc = .ok (.lstore_n n, 1)) (hi : (n : Nat) = i) (hn : i + 1 < Y.2.2.1) (hl : lv_pick (qS2 i (.long x) L) ks = L') (k : EW Y g X Z (pc + 1) L' st M) : EW Y g X Z pc L (.long x :: st) M :=
  ⟨k.1, fun ok ad H locs cells slots ls I hs => lv_lstore_n ok.1 ok.2.1 hd hi I.2.2.2.2.2.1 hn (rL_S2 g ad i (.long x) L) (fun ls' h' => k.2 ok ad H locs cells slots ls' ⟨I.1, I.2.1, I.2.2.1, fun q hq => qS2_mem hs.1 I.2.2.2.1 q (pick_mem hl q hq), I.2.2.2.2.1, rL_sub h' (pick_mem hl), I.2.2.2.2.2.2⟩ hs.2)⟩
theorem ew_lstore {x : Int64} {i : Nat} (ks : List Nat) (hd : decode Y.2.1 pc = .ok (.lstore i, 2)) (hn : i + 1 < Y.2.2.1) (hl : lv_pick (qS2 i (.long x) L) ks = L') (k : EW Y g X Z (pc + 2) L' st M) : EW Y g X Z pc L (.long x :: st) M :=
  ⟨k.1, fun ok ad H locs cells slots ls I hs => lv_lstore ok.1 ok.2.1 hd I.2.2.2.2.2.1 hn (rL_S2 g ad i (.long x) L) (fun ls' h' => k.2 ok ad H locs cells slots ls' ⟨I.1, I.2.1, I.2.2.1, fun q hq => qS2_mem hs.1 I.2.2.2.1 q (pick_mem hl q hq), I.2.2.2.2.1, rL_sub h' (pick_mem hl), I.2.2.2.2.2.2⟩ hs.2)⟩
theorem ew_astore_n {n : Fin 4} {x : Nat} (i : Nat) (ks : List Nat) (hd : decode Y.2.1 pc = .ok (.astore_n n, 1)) (hi : (n : Nat) = i) (hn : i < Y.2.2.1) (hl : lv_pick (qS1 i (.ref x) L) ks = L') (k : EW Y g X Z (pc + 1) L' st M) : EW Y g X Z pc L (.ref x :: st) M :=
  ⟨k.1, fun ok ad H locs cells slots ls I hs => lv_astore_n ok.1 ok.2.1 hd hi I.2.2.2.2.2.1 hn (rL_S1 g ad i (.ref x) L) (fun ls' h' => k.2 ok ad H locs cells slots ls' ⟨I.1, I.2.1, I.2.2.1, fun q hq => qS1_mem hs.1 I.2.2.2.1 q (pick_mem hl q hq), I.2.2.2.2.1, rL_sub h' (pick_mem hl), I.2.2.2.2.2.2⟩ hs.2)⟩
theorem ew_astore {x : Nat} {i : Nat} (ks : List Nat) (hd : decode Y.2.1 pc = .ok (.astore i, 2)) (hn : i < Y.2.2.1) (hl : lv_pick (qS1 i (.ref x) L) ks = L') (k : EW Y g X Z (pc + 2) L' st M) : EW Y g X Z pc L (.ref x :: st) M :=
  ⟨k.1, fun ok ad H locs cells slots ls I hs => lv_astore ok.1 ok.2.1 hd I.2.2.2.2.2.1 hn (rL_S1 g ad i (.ref x) L) (fun ls' h' => k.2 ok ad H locs cells slots ls' ⟨I.1, I.2.1, I.2.2.1, fun q hq => qS1_mem hs.1 I.2.2.2.1 q (pick_mem hl q hq), I.2.2.2.2.1, rL_sub h' (pick_mem hl), I.2.2.2.2.2.2⟩ hs.2)⟩
theorem qLk_at {i : Nat} {v : Value} {L : List (Nat × Value)} (h : qLk L i = some v) : ∃ k : Nat, L[k]? = some (i, v) := List.getElem?_of_mem (qLk_mem h)
theorem ew_iinc {i : Nat} {n : Int} {x : Int32} (v : Int32) (ks : List Nat) (hd : decode Y.2.1 pc = .ok (.iinc i n, 3)) (hx : qLk L i = some (.int x)) (hv : x + Int32.ofInt n = v) (hn : i < Y.2.2.1) (hl : lv_pick (qS1 i (.int v) L) ks = L') (k : EW Y g X Z (pc + 3) L' st M) : EW Y g X Z pc L st M := by
  refine ⟨k.1, fun ok ad H locs cells slots ls I hs => ?_⟩
  obtain ⟨j, hj⟩ : ∃ j : Nat, (rL g ad L)[j]? = some (i, Value.int x) := by
    obtain ⟨j, hj⟩ := qLk_at hx
    exact ⟨j, by rw [List.getElem?_map, hj]; rfl⟩
  exact lv_iinc ok.1 ok.2.1 hd I.2.2.2.2.2.1 hj hv hn (rL_S1 g ad i (.int v) L) (fun ls' h' => k.2 ok ad H locs cells slots ls' ⟨I.1, I.2.1, I.2.2.1, fun q hq => qS1_mem (v := .int v) trivial I.2.2.2.1 q (pick_mem hl q hq), I.2.2.2.2.1, rL_sub h' (pick_mem hl), I.2.2.2.2.2.2⟩ hs)
theorem ew_iadd {x y : Int32} (hd : decode Y.2.1 pc = .ok (.iadd, 1)) (k : EW Y g X Z (pc + 1) L (.int (x + y) :: st) M) : EW Y g X Z pc L (.int y :: .int x :: st) M :=
  ew_op k (fun _ _ h => ⟨trivial, h.2.2⟩) (fun ok ad H locs cells slots ls _ K => lv_iadd ok.1 ok.2.1 hd K)
theorem ew_isub {x y : Int32} (hd : decode Y.2.1 pc = .ok (.isub, 1)) (k : EW Y g X Z (pc + 1) L (.int (x - y) :: st) M) : EW Y g X Z pc L (.int y :: .int x :: st) M :=
  ew_op k (fun _ _ h => ⟨trivial, h.2.2⟩) (fun ok ad H locs cells slots ls _ K => lv_isub ok.1 ok.2.1 hd K)
theorem ew_imul {x y : Int32} (hd : decode Y.2.1 pc = .ok (.imul, 1)) (k : EW Y g X Z (pc + 1) L (.int (x * y) :: st) M) : EW Y g X Z pc L (.int y :: .int x :: st) M :=
  ew_op k (fun _ _ h => ⟨trivial, h.2.2⟩) (fun ok ad H locs cells slots ls _ K => lv_imul ok.1 ok.2.1 hd K)
theorem ew_iand {x y : Int32} (hd : decode Y.2.1 pc = .ok (.iand, 1)) (k : EW Y g X Z (pc + 1) L (.int (x &&& y) :: st) M) : EW Y g X Z pc L (.int y :: .int x :: st) M :=
  ew_op k (fun _ _ h => ⟨trivial, h.2.2⟩) (fun ok ad H locs cells slots ls _ K => lv_iand ok.1 ok.2.1 hd K)
theorem ew_ior {x y : Int32} (hd : decode Y.2.1 pc = .ok (.ior, 1)) (k : EW Y g X Z (pc + 1) L (.int (x ||| y) :: st) M) : EW Y g X Z pc L (.int y :: .int x :: st) M :=
  ew_op k (fun _ _ h => ⟨trivial, h.2.2⟩) (fun ok ad H locs cells slots ls _ K => lv_ior ok.1 ok.2.1 hd K)
theorem ew_ixor {x y : Int32} (hd : decode Y.2.1 pc = .ok (.ixor, 1)) (k : EW Y g X Z (pc + 1) L (.int (x ^^^ y) :: st) M) : EW Y g X Z pc L (.int y :: .int x :: st) M :=
  ew_op k (fun _ _ h => ⟨trivial, h.2.2⟩) (fun ok ad H locs cells slots ls _ K => lv_ixor ok.1 ok.2.1 hd K)
theorem ew_ishl {x y : Int32} (hd : decode Y.2.1 pc = .ok (.ishl, 1)) (k : EW Y g X Z (pc + 1) L (.int (x <<< (y &&& 31)) :: st) M) : EW Y g X Z pc L (.int y :: .int x :: st) M :=
  ew_op k (fun _ _ h => ⟨trivial, h.2.2⟩) (fun ok ad H locs cells slots ls _ K => lv_ishl ok.1 ok.2.1 hd K)
theorem ew_ishr {x y : Int32} (hd : decode Y.2.1 pc = .ok (.ishr, 1)) (k : EW Y g X Z (pc + 1) L (.int (x >>> (y &&& 31)) :: st) M) : EW Y g X Z pc L (.int y :: .int x :: st) M :=
  ew_op k (fun _ _ h => ⟨trivial, h.2.2⟩) (fun ok ad H locs cells slots ls _ K => lv_ishr ok.1 ok.2.1 hd K)
theorem ew_ladd {x y : Int64} (hd : decode Y.2.1 pc = .ok (.ladd, 1)) (k : EW Y g X Z (pc + 1) L (.long (x + y) :: st) M) : EW Y g X Z pc L (.long y :: .long x :: st) M :=
  ew_op k (fun _ _ h => ⟨trivial, h.2.2⟩) (fun ok ad H locs cells slots ls _ K => lv_ladd ok.1 ok.2.1 hd K)
theorem ew_lsub {x y : Int64} (hd : decode Y.2.1 pc = .ok (.lsub, 1)) (k : EW Y g X Z (pc + 1) L (.long (x - y) :: st) M) : EW Y g X Z pc L (.long y :: .long x :: st) M :=
  ew_op k (fun _ _ h => ⟨trivial, h.2.2⟩) (fun ok ad H locs cells slots ls _ K => lv_lsub ok.1 ok.2.1 hd K)
theorem ew_lmul {x y : Int64} (hd : decode Y.2.1 pc = .ok (.lmul, 1)) (k : EW Y g X Z (pc + 1) L (.long (x * y) :: st) M) : EW Y g X Z pc L (.long y :: .long x :: st) M :=
  ew_op k (fun _ _ h => ⟨trivial, h.2.2⟩) (fun ok ad H locs cells slots ls _ K => lv_lmul ok.1 ok.2.1 hd K)
theorem ew_land {x y : Int64} (hd : decode Y.2.1 pc = .ok (.land, 1)) (k : EW Y g X Z (pc + 1) L (.long (x &&& y) :: st) M) : EW Y g X Z pc L (.long y :: .long x :: st) M :=
  ew_op k (fun _ _ h => ⟨trivial, h.2.2⟩) (fun ok ad H locs cells slots ls _ K => lv_land ok.1 ok.2.1 hd K)
theorem ew_lor {x y : Int64} (hd : decode Y.2.1 pc = .ok (.lor, 1)) (k : EW Y g X Z (pc + 1) L (.long (x ||| y) :: st) M) : EW Y g X Z pc L (.long y :: .long x :: st) M :=
  ew_op k (fun _ _ h => ⟨trivial, h.2.2⟩) (fun ok ad H locs cells slots ls _ K => lv_lor ok.1 ok.2.1 hd K)
theorem ew_lxor {x y : Int64} (hd : decode Y.2.1 pc = .ok (.lxor, 1)) (k : EW Y g X Z (pc + 1) L (.long (x ^^^ y) :: st) M) : EW Y g X Z pc L (.long y :: .long x :: st) M :=
  ew_op k (fun _ _ h => ⟨trivial, h.2.2⟩) (fun ok ad H locs cells slots ls _ K => lv_lxor ok.1 ok.2.1 hd K)
theorem ew_ineg {x : Int32} (hd : decode Y.2.1 pc = .ok (.ineg, 1)) (k : EW Y g X Z (pc + 1) L (.int (-x) :: st) M) : EW Y g X Z pc L (.int x :: st) M :=
  ew_op k (fun _ _ h => ⟨trivial, h.2⟩) (fun ok ad H locs cells slots ls _ K => lv_ineg ok.1 ok.2.1 hd K)
theorem ew_lneg {x : Int64} (hd : decode Y.2.1 pc = .ok (.lneg, 1)) (k : EW Y g X Z (pc + 1) L (.long (-x) :: st) M) : EW Y g X Z pc L (.long x :: st) M :=
  ew_op k (fun _ _ h => ⟨trivial, h.2⟩) (fun ok ad H locs cells slots ls _ K => lv_lneg ok.1 ok.2.1 hd K)
theorem ew_iushr {x y : Int32} (hd : decode Y.2.1 pc = .ok (.iushr, 1)) (k : EW Y g X Z (pc + 1) L (.int (x.toUInt32 >>> (y.toUInt32 &&& Int32.toUInt32 31)).toInt32 :: st) M) : EW Y g X Z pc L (.int y :: .int x :: st) M :=
  ew_op k (fun _ _ h => ⟨trivial, h.2.2⟩) (fun ok ad H locs cells slots ls _ K => lv_iushr ok.1 ok.2.1 hd rfl K)
theorem ew_lushr {x : Int64} {y : Int32} (hd : decode Y.2.1 pc = .ok (.lushr, 1)) (k : EW Y g X Z (pc + 1) L (.long (x.toUInt64 >>> (y.toInt64.toUInt64 &&& Int64.toUInt64 63)).toInt64 :: st) M) : EW Y g X Z pc L (.int y :: .long x :: st) M :=
  ew_op k (fun _ _ h => ⟨trivial, h.2.2⟩) (fun ok ad H locs cells slots ls _ K => lv_lushr ok.1 ok.2.1 hd rfl K)
theorem ew_lshl {x : Int64} {y : Int32} (hd : decode Y.2.1 pc = .ok (.lshl, 1)) (k : EW Y g X Z (pc + 1) L (.long (x <<< (y.toInt64 &&& 63)) :: st) M) : EW Y g X Z pc L (.int y :: .long x :: st) M :=
  ew_op k (fun _ _ h => ⟨trivial, h.2.2⟩) (fun ok ad H locs cells slots ls _ K => lv_lshl ok.1 ok.2.1 hd rfl K)
theorem ew_lshr {x : Int64} {y : Int32} (hd : decode Y.2.1 pc = .ok (.lshr, 1)) (k : EW Y g X Z (pc + 1) L (.long (x >>> (y.toInt64 &&& 63)) :: st) M) : EW Y g X Z pc L (.int y :: .long x :: st) M :=
  ew_op k (fun _ _ h => ⟨trivial, h.2.2⟩) (fun ok ad H locs cells slots ls _ K => lv_lshr ok.1 ok.2.1 hd rfl K)
theorem ew_i2l {x : Int32} (hd : decode Y.2.1 pc = .ok (.i2l, 1)) (k : EW Y g X Z (pc + 1) L (.long x.toInt64 :: st) M) : EW Y g X Z pc L (.int x :: st) M :=
  ew_op k (fun _ _ h => ⟨trivial, h.2⟩) (fun ok ad H locs cells slots ls _ K => lv_i2l ok.1 ok.2.1 hd rfl K)
theorem ew_l2i {x : Int64} (hd : decode Y.2.1 pc = .ok (.l2i, 1)) (k : EW Y g X Z (pc + 1) L (.int x.toInt32 :: st) M) : EW Y g X Z pc L (.long x :: st) M :=
  ew_op k (fun _ _ h => ⟨trivial, h.2⟩) (fun ok ad H locs cells slots ls _ K => lv_l2i ok.1 ok.2.1 hd rfl K)
theorem ew_lcmp {x y : Int64} (hd : decode Y.2.1 pc = .ok (.lcmp, 1)) (k : EW Y g X Z (pc + 1) L (.int (lg_cmp x y) :: st) M) : EW Y g X Z pc L (.long y :: .long x :: st) M :=
  ew_op k (fun _ _ h => ⟨trivial, h.2.2⟩) (fun ok ad H locs cells slots ls _ K => W.lcmp ok.1 ok.2.1 hd K)
theorem ew_dup {v : Value} (hd : decode Y.2.1 pc = .ok (.dup, 1)) (hc : v.category = 1) (k : EW Y g X Z (pc + 1) L (v :: v :: st) M) : EW Y g X Z pc L (v :: st) M :=
  ew_op k (fun _ _ h => ⟨h.1, h⟩) (fun ok ad H locs cells slots ls _ K => lv_dup ok.1 ok.2.1 hd (by rw [rV_cat]; exact hc) K)
theorem ew_pop {v : Value} (hd : decode Y.2.1 pc = .ok (.pop, 1)) (hc : v.category = 1) (k : EW Y g X Z (pc + 1) L st M) : EW Y g X Z pc L (v :: st) M :=
  ew_op k (fun _ _ h => h.2) (fun ok ad H locs cells slots ls _ K => lv_pop ok.1 ok.2.1 hd (by rw [rV_cat]; exact hc) K)
theorem ew_dup_x1 {v u : Value} (hd : decode Y.2.1 pc = .ok (.dup_x1, 1)) (hc : v.category = 1) (hu : u.category = 1) (k : EW Y g X Z (pc + 1) L (v :: u :: v :: st) M) : EW Y g X Z pc L (v :: u :: st) M :=
  ew_op k (fun _ _ h => ⟨h.1, h.2.1, h.1, h.2.2⟩) (fun ok ad H locs cells slots ls _ K => lv_dup_x1 ok.1 ok.2.1 hd (by rw [rV_cat]; exact hc) (by rw [rV_cat]; exact hu) K)
theorem ew_dup2 {v u : Value} (hd : decode Y.2.1 pc = .ok (.dup2, 1)) (hc : v.category = 1) (hu : u.category = 1) (k : EW Y g X Z (pc + 1) L (v :: u :: v :: u :: st) M) : EW Y g X Z pc L (v :: u :: st) M :=
  ew_op k (fun _ _ h => ⟨h.1, h.2.1, h⟩) (fun ok ad H locs cells slots ls _ K => lv_dup2_11 ok.1 ok.2.1 hd (by rw [rV_cat]; exact hc) (by rw [rV_cat]; exact hu) K)
theorem ew_goto {off : Int} (tgt : Nat) (hd : decode Y.2.1 pc = .ok (.goto off, 3)) (ht : (pc : Int) + off = (tgt : Int)) (k : EW Y g X Z tgt L st M) : EW Y g X Z pc L st M :=
  ew_op k (fun _ _ h => h) (fun ok ad H locs cells slots ls _ K => lv_goto ok.1 ok.2.1 hd ht K)
theorem ew_if_eq {x : Int32} {off : Int} (tgt : Nat) (hd : decode Y.2.1 pc = .ok (.ifCond .eq off, 3)) (ht : (pc : Int) + off = (tgt : Int)) (kt : x = 0 → EW Y g X Z tgt L st M) (kf : ¬ x = 0 → EW Y g X Z (pc + 3) L st M) : EW Y g X Z pc L (.int x :: st) M :=
  ew_br (c := x = 0) kt kf (fun h => h.2) (fun ok ad H locs cells slots ls Kt Kf => lv_if_eq ok.1 ok.2.1 hd ht Kt Kf)
theorem ew_icmp_eq {x y : Int32} {off : Int} (tgt : Nat) (hd : decode Y.2.1 pc = .ok (.if_icmp .eq off, 3)) (ht : (pc : Int) + off = (tgt : Int)) (kt : x = y → EW Y g X Z tgt L st M) (kf : ¬ x = y → EW Y g X Z (pc + 3) L st M) : EW Y g X Z pc L (.int y :: .int x :: st) M :=
  ew_br (c := x = y) kt kf (fun h => h.2.2) (fun ok ad H locs cells slots ls Kt Kf => lv_icmp_eq ok.1 ok.2.1 hd ht Kt Kf)
theorem ew_if_ne {x : Int32} {off : Int} (tgt : Nat) (hd : decode Y.2.1 pc = .ok (.ifCond .ne off, 3)) (ht : (pc : Int) + off = (tgt : Int)) (kt : ¬ x = 0 → EW Y g X Z tgt L st M) (kf : x = 0 → EW Y g X Z (pc + 3) L st M) : EW Y g X Z pc L (.int x :: st) M :=
  ew_br (c := x = 0) kf kt (fun h => h.2) (fun ok ad H locs cells slots ls Kf Kt => lv_if_ne ok.1 ok.2.1 hd ht Kt Kf)
theorem ew_icmp_ne {x y : Int32} {off : Int} (tgt : Nat) (hd : decode Y.2.1 pc = .ok (.if_icmp .ne off, 3)) (ht : (pc : Int) + off = (tgt : Int)) (kt : ¬ x = y → EW Y g X Z tgt L st M) (kf : x = y → EW Y g X Z (pc + 3) L st M) : EW Y g X Z pc L (.int y :: .int x :: st) M :=
  ew_br (c := x = y) kf kt (fun h => h.2.2) (fun ok ad H locs cells slots ls Kf Kt => lv_icmp_ne ok.1 ok.2.1 hd ht Kt Kf)
theorem ew_if_lt {x : Int32} {off : Int} (tgt : Nat) (hd : decode Y.2.1 pc = .ok (.ifCond .lt off, 3)) (ht : (pc : Int) + off = (tgt : Int)) (kt : x < 0 → EW Y g X Z tgt L st M) (kf : ¬ x < 0 → EW Y g X Z (pc + 3) L st M) : EW Y g X Z pc L (.int x :: st) M :=
  ew_br (c := x < 0) kt kf (fun h => h.2) (fun ok ad H locs cells slots ls Kt Kf => lv_if_lt ok.1 ok.2.1 hd ht Kt Kf)
theorem ew_icmp_lt {x y : Int32} {off : Int} (tgt : Nat) (hd : decode Y.2.1 pc = .ok (.if_icmp .lt off, 3)) (ht : (pc : Int) + off = (tgt : Int)) (kt : x < y → EW Y g X Z tgt L st M) (kf : ¬ x < y → EW Y g X Z (pc + 3) L st M) : EW Y g X Z pc L (.int y :: .int x :: st) M :=
  ew_br (c := x < y) kt kf (fun h => h.2.2) (fun ok ad H locs cells slots ls Kt Kf => lv_icmp_lt ok.1 ok.2.1 hd ht Kt Kf)
theorem ew_if_ge {x : Int32} {off : Int} (tgt : Nat) (hd : decode Y.2.1 pc = .ok (.ifCond .ge off, 3)) (ht : (pc : Int) + off = (tgt : Int)) (kt : 0 ≤ x → EW Y g X Z tgt L st M) (kf : ¬ 0 ≤ x → EW Y g X Z (pc + 3) L st M) : EW Y g X Z pc L (.int x :: st) M :=
  ew_br (c := 0 ≤ x) kt kf (fun h => h.2) (fun ok ad H locs cells slots ls Kt Kf => lv_if_ge ok.1 ok.2.1 hd ht Kt Kf)
theorem ew_icmp_ge {x y : Int32} {off : Int} (tgt : Nat) (hd : decode Y.2.1 pc = .ok (.if_icmp .ge off, 3)) (ht : (pc : Int) + off = (tgt : Int)) (kt : y ≤ x → EW Y g X Z tgt L st M) (kf : ¬ y ≤ x → EW Y g X Z (pc + 3) L st M) : EW Y g X Z pc L (.int y :: .int x :: st) M :=
  ew_br (c := y ≤ x) kt kf (fun h => h.2.2) (fun ok ad H locs cells slots ls Kt Kf => lv_icmp_ge ok.1 ok.2.1 hd ht Kt Kf)
theorem ew_if_gt {x : Int32} {off : Int} (tgt : Nat) (hd : decode Y.2.1 pc = .ok (.ifCond .gt off, 3)) (ht : (pc : Int) + off = (tgt : Int)) (kt : 0 < x → EW Y g X Z tgt L st M) (kf : ¬ 0 < x → EW Y g X Z (pc + 3) L st M) : EW Y g X Z pc L (.int x :: st) M :=
  ew_br (c := 0 < x) kt kf (fun h => h.2) (fun ok ad H locs cells slots ls Kt Kf => lv_if_gt ok.1 ok.2.1 hd ht Kt Kf)
theorem ew_icmp_gt {x y : Int32} {off : Int} (tgt : Nat) (hd : decode Y.2.1 pc = .ok (.if_icmp .gt off, 3)) (ht : (pc : Int) + off = (tgt : Int)) (kt : y < x → EW Y g X Z tgt L st M) (kf : ¬ y < x → EW Y g X Z (pc + 3) L st M) : EW Y g X Z pc L (.int y :: .int x :: st) M :=
  ew_br (c := y < x) kt kf (fun h => h.2.2) (fun ok ad H locs cells slots ls Kt Kf => lv_icmp_gt ok.1 ok.2.1 hd ht Kt Kf)
theorem ew_if_le {x : Int32} {off : Int} (tgt : Nat) (hd : decode Y.2.1 pc = .ok (.ifCond .le off, 3)) (ht : (pc : Int) + off = (tgt : Int)) (kt : x ≤ 0 → EW Y g X Z tgt L st M) (kf : ¬ x ≤ 0 → EW Y g X Z (pc + 3) L st M) : EW Y g X Z pc L (.int x :: st) M :=
  ew_br (c := x ≤ 0) kt kf (fun h => h.2) (fun ok ad H locs cells slots ls Kt Kf => lv_if_le ok.1 ok.2.1 hd ht Kt Kf)
theorem ew_icmp_le {x y : Int32} {off : Int} (tgt : Nat) (hd : decode Y.2.1 pc = .ok (.if_icmp .le off, 3)) (ht : (pc : Int) + off = (tgt : Int)) (kt : x ≤ y → EW Y g X Z tgt L st M) (kf : ¬ x ≤ y → EW Y g X Z (pc + 3) L st M) : EW Y g X Z pc L (.int y :: .int x :: st) M :=
  ew_br (c := x ≤ y) kt kf (fun h => h.2.2) (fun ok ad H locs cells slots ls Kt Kf => lv_icmp_le ok.1 ok.2.1 hd ht Kt Kf)
theorem ew_swOut {dflt lo hi : Int} {offs : Array Int} {len : Nat} {x : Int32} (tgt : Nat) (hd : decode Y.2.1 pc = .ok (.tableswitch dflt lo hi offs, len)) (h : x.toInt < lo ∨ hi < x.toInt) (ht : (pc : Int) + dflt = (tgt : Int)) (k : EW Y g X Z tgt L st M) : EW Y g X Z pc L (.int x :: st) M :=
  ew_op k (fun _ _ h => h.2) (fun ok ad H locs cells slots ls _ K => lv_tableOut ok.1 ok.2.1 hd h ht K)
theorem ew_swIn {dflt lo hi : Int} {offs : Array Int} {len : Nat} {x : Int32} {off : Int} (tgt : Nat) (hd : decode Y.2.1 pc = .ok (.tableswitch dflt lo hi offs, len)) (h1 : ¬ x.toInt < lo) (h2 : ¬ hi < x.toInt) (ho : offs[(x.toInt - lo).toNat]? = some off) (ht : (pc : Int) + off = (tgt : Int)) (k : EW Y g X Z tgt L st M) : EW Y g X Z pc L (.int x :: st) M :=
  ew_op k (fun _ _ h => h.2) (fun ok ad H locs cells slots ls _ K => lv_tableIn ok.1 ok.2.1 hd h1 h2 ho ht K)
end EWR
end
section
/-! THE PURE MACHINE: fields, arrays, makings, answers, contracts, calls -/
theorem set_range {n k : Nat} {f : Nat → Value} {x : Value} : ((List.range n).map f).set k x = (List.range n).map (fun j => if j = k then x else f j) := by
  apply List.ext_getElem?
  intro i
  rw [List.getElem?_set]
  by_cases e : k = i
  · subst e
    by_cases h : k < n
    · simp [h]
    · simp [h]
  · have e' : ¬ i = k := fun z => e z.symm
    by_cases h : i < n
    · simp [e, e', h]
    · simp [e, h]
theorem rE_congr {g : qG} {ad : Nat → Nat} {M M' : PM} {k : Nat} (h1 : mK M' k = mK M k) (h2 : mN M' k = mN M k) (h3 : mI M' k = mI M k) (h4 : mL M' k = mL M k) (h5 : mF M' k = mF M k) : rE g ad M' k = rE g ad M k := by
  unfold rE
  rw [h1, h2, h3, h4, h5]
theorem up2_ne {α : Type} {f : Nat → Nat → α} {a j k : Nat} {v : α} (h : k ≠ a) : up2 f a j v k = f k := by
  funext i
  simp [up2, h]
theorem up2_I {f : Nat → Nat → Int32} {a j : Nat} {v : Int32} : up2 f a j v a = upd (f a) j v := by
  funext i
  simp [up2, upd]
theorem up2_L {f : Nat → Nat → Int64} {a j : Nat} {v : Int64} : up2 f a j v a = vp_updL (f a) j v := by
  funext i
  simp [up2, vp_updL]
theorem va_up_ne' {α : Type} {f : Nat → α} {k j : Nat} {v : α} (h : j < k) : va_up f k v j = f j := va_up_ne f v (Nat.ne_of_lt h)
def qFl (own : String) (ix ci k : Nat) (fin : Bool) : Prop := ∃ (C : String) (T : u_T) (N : Nat), qCl[ci]? = some (C, T, N) ∧ k < N ∧ (T k).2.2.2 = fin ∧ (fin = true → (T k).1 = own → (T k).1 = own ∧ Cond.fieldLink own ix (T k).1 (T k).2.1 (T k).2.2.1 ∈ qTT) ∧ ((Cond.fieldLink own ix (T k).1 (T k).2.1 (T k).2.2.1 ∈ qTT) ∨ ∃ host, Cond.fieldLinkNest own ix (T k).1 (T k).2.1 (T k).2.2.1 host ∈ qNN)
def qNw (own : String) (ix ci : Nat) : Prop := ∃ (C : String) (T : u_T) (N : Nat), qCl[ci]? = some (C, T, N) ∧ Cond.classLink own ix C ∈ qTT ∧ Cond.instantiable C N ∈ qTT ∧ Cond.initialized C ∈ qTT
section EWH
variable {Y : qY} {g : qG} {X : qX} {Z : qZ} {pc : Nat} {L L' : List (Nat × Value)} {st : List Value} {M : PM}
theorem ew_getfield {ix a : Nat} {fin : Bool} (ci kk : Nat) (hd : decode Y.2.1 pc = .ok (.getfield ix, 3)) (hf : qFl Y.1.cls ix ci kk fin) (hk : mK M a = ci + 3) (k : EW Y g X Z (pc + 3) L (mF M a kk :: st) M) : EW Y g X Z pc L (.ref a :: st) M := by
  refine ⟨k.1, fun ok ad H locs cells slots ls I hs => ?_⟩
  obtain ⟨C, T, N, hc, hkN, -, -, hlink⟩ := hf
  obtain ⟨hx, hb, hml, hown, hr, hlk, hEx, hnm, hst, hF, hg0, -⟩ := id ok
  have hin := qCl_ws ci C T N hc
  have hN : qNf ci = N := by simp [qNf, hc]
  have ha : a < mS M := hs.1
  have hwn : wfS (mS M) (mF M a kk :: st) := ⟨I.2.2.1.1 a ha (by omega) kk, hs.2⟩
  have he : (rW g ad M)[a]? = some (ad a, .inr (ci, (List.range (qNf ci)).map (fun j => rV g ad (mF M a j)))) := by rw [rW_get ha, rE_3 hk]
  have hv : ((List.range (qNf ci)).map (fun j => rV g ad (mF M a j)))[kk]? = some (rV g ad (mF M a kk)) := by simp [hN, hkN]
  have hts : ∀ w ∈ qTT, w.before (xa X) (xs X) = true := fun w hw => hF.word hw _
  rcases hlink with hl | ⟨host, hl⟩
  · exact va_get hx hb hts hin hown hF.2.2.1 I.2.1.1 a he hc kk hkN (hts _ hl) (fun _ h => h) hv hd (k.2 ok ad H locs cells slots ls I hwn)
  · exact va_getN hx hb hts hin hown hF.2.2.1 I.2.1.1 a he hc kk hkN (va_Nw.use rfl (hF.2.1 _ hl)) (fun _ h => h) hv hd (k.2 ok ad H locs cells slots ls I hwn)
theorem rE_sF {ad : Nat → Nat} {a ci kk : Nat} {v : Value} (hk : mK M a = ci + 3) : rE g ad (sF M a kk v) a = .inr (ci, ((List.range (qNf ci)).map (fun j => rV g ad (mF M a j))).set kk (rV g ad v)) := by
  rw [rE_3 (M := sF M a kk v) hk, set_range]
  congr 2
  apply List.map_congr_left
  intro j _
  show rV g ad (up2 (mF M) a kk v a j) = _
  by_cases e : j = kk
  · simp [up2, e]
  · simp [up2, e]
theorem rW_sF {ad : Nat → Nat} {a ci kk : Nat} {v : Value} (hk : mK M a = ci + 3) : (rW g ad M).set a (ad a, .inr (ci, ((List.range (qNf ci)).map (fun j => rV g ad (mF M a j))).set kk (rV g ad v))) = rW g ad (sF M a kk v) := by
  rw [← rE_sF hk]
  exact rW_set rfl (fun j hj => rE_congr rfl rfl rfl rfl (up2_ne hj))
theorem wfM_sF {a kk : Nat} {v : Value} (hw : wfM M) (hv : wfV (mS M) v) : wfM (sF M a kk v) := by
  refine ⟨fun k hk h3 j => ?_, hw.2⟩
  show wfV (mS M) (up2 (mF M) a kk v k j)
  unfold up2
  split
  · exact hv
  · exact hw.1 k hk h3 j
theorem ew_putfield {ix a : Nat} {v : Value} (ci kk : Nat) (hd : decode Y.2.1 pc = .ok (.putfield ix, 3)) (hf : qFl Y.1.cls ix ci kk false) (hk : mK M a = ci + 3) (hfit : ∀ ad, narrow (qTy ci kk) (rV g ad v) = rV g ad v ∧ fits (qTy ci kk) (rV g ad v) = true) (k : EW Y g X Z (pc + 3) L st (sF M a kk v)) : EW Y g X Z pc L (v :: .ref a :: st) M := by
  refine ⟨k.1, fun ok ad H locs cells slots ls I hs => ?_⟩
  obtain ⟨C, T, N, hc, hkN, hfin, -, hlink⟩ := hf
  obtain ⟨hx, hb, hml, hown, hr, hlk, hEx, hnm, hst, hF, hg0, -⟩ := id ok
  have hin := qCl_ws ci C T N hc
  have hN : qNf ci = N := by simp [qNf, hc]
  have ha : a < mS M := hs.2.1
  have he : (rW g ad M)[a]? = some (ad a, .inr (ci, (List.range (qNf ci)).map (fun j => rV g ad (mF M a j)))) := by rw [rW_get ha, rE_3 hk]
  have hl9 : kk < ((List.range (qNf ci)).map (fun j => rV g ad (mF M a j))).length := by simp [hN, hkN]
  have hts : ∀ w ∈ qTT, w.before (xa X) (xs X) = true := fun w hw => hF.word hw _
  have go : ∀ (H1 : Heap) (locs1 : List Loc), va_P g.2.1 qCl ((rW g ad M).set a (ad a, .inr (ci, ((List.range (qNf ci)).map (fun j => rV g ad (mF M a j))).set kk (rV g ad v)))) H1 → va_D (qA g) ((rW g ad M).set a (ad a, .inr (ci, ((List.range (qNf ci)).map (fun j => rV g ad (mF M a j))).set kk (rV g ad v)))) → va_S (qA g) (xs X).heap H1 locs1 → qW g X Z H1 locs1 cells slots (F0 (xm X) (pc + 3) ls (st.map (rV g ad))) := by
    intro H1 locs1 p1 d1 s1
    rw [rW_sF hk] at p1 d1
    exact k.2 ok ad H1 locs1 cells slots ls ⟨I.1, ⟨p1, d1⟩, wfM_sF I.2.2.1 hs.1, I.2.2.2.1, s1, I.2.2.2.2.2⟩ hs.2.2
  rcases hlink with hl | ⟨host, hl⟩
  · exact va_put hx hb hts hin (qTy ci) (qTy_ok ci C T N hc) (qNm_ok ci C T N hc) hown hF.2.2.1 I.2.1.1 I.2.1.2 I.2.2.2.2.1 a he hc kk hkN (hts _ hl) (fun _ h => h) hfin (qTy_ok ci C T N hc kk hkN) (hfit ad).1 (hfit ad).2 hl9 hd go
  · exact va_putN hx hb hts hin (qTy ci) (qTy_ok ci C T N hc) (qNm_ok ci C T N hc) hown hF.2.2.1 I.2.1.1 I.2.1.2 I.2.2.2.2.1 a he hc kk hkN (va_Nw.use rfl (hF.2.1 _ hl)) (fun _ h => h) hfin (qTy_ok ci C T N hc kk hkN) (hfit ad).1 (hfit ad).2 hl9 hd go
theorem ew_putfieldF {ix a : Nat} {v : Value} (ci kk : Nat) (hd : decode Y.2.1 pc = .ok (.putfield ix, 3)) (hf : qFl Y.1.cls ix ci kk true) (hi : Y.1.name = "<init>") (hoc : ((qCl.getD ci ("", fun _ => ("", "", "", false), 0)).2.1 kk).1 = Y.1.cls) (hk : mK M a = ci + 3) (hfit : ∀ ad, narrow (qTy ci kk) (rV g ad v) = rV g ad v ∧ fits (qTy ci kk) (rV g ad v) = true) (k : EW Y g X Z (pc + 3) L st (sF M a kk v)) : EW Y g X Z pc L (v :: .ref a :: st) M := by
  refine ⟨k.1, fun ok ad H locs cells slots ls I hs => ?_⟩
  obtain ⟨C, T, N, hc, hkN, hfin, hown9, -⟩ := hf
  obtain ⟨hx, hb, hml, hown, hr, hlk, hEx, hnm, hst, hF, hg0, -⟩ := id ok
  have hin := qCl_ws ci C T N hc
  have hN : qNf ci = N := by simp [qNf, hc]
  have ha : a < mS M := hs.2.1
  have he : (rW g ad M)[a]? = some (ad a, .inr (ci, (List.range (qNf ci)).map (fun j => rV g ad (mF M a j)))) := by rw [rW_get ha, rE_3 hk]
  have hl9 : kk < ((List.range (qNf ci)).map (fun j => rV g ad (mF M a j))).length := by simp [hN, hkN]
  have hts : ∀ w ∈ qTT, w.before (xa X) (xs X) = true := fun w hw => hF.word hw _
  have e9 : qCl.getD ci ("", fun _ => ("", "", "", false), 0) = (C, T, N) := by simp [List.getD, hc]
  rw [e9] at hoc
  have hl := (hown9 rfl hoc).2
  refine va_putF hx hb hts hin (qTy ci) (qTy_ok ci C T N hc) (qNm_ok ci C T N hc) hown hF.2.2.1 I.2.1.1 I.2.1.2 I.2.2.2.2.1 a he hc kk hkN (hts _ hl) (fun _ h => h) hfin (hnm.trans hi) hoc (qTy_ok ci C T N hc kk hkN) (hfit ad).1 (hfit ad).2 hl9 hd ?_
  intro H1 locs1 p1 d1 s1
  rw [rW_sF hk] at p1 d1
  exact k.2 ok ad H1 locs1 cells slots ls ⟨I.1, ⟨p1, d1⟩, wfM_sF I.2.2.1 hs.1, I.2.2.2.1, s1, I.2.2.2.2.2⟩ hs.2.2
theorem ew_iaload {a : Nat} {i : Int32} (j : Nat) (hd : decode Y.2.1 pc = .ok (.iaload, 1)) (hk : mK M a = 0) (hi : i = nI j) (hj : j < mN M a) (k : EW Y g X Z (pc + 1) L (.int (mI M a j) :: st) M) : EW Y g X Z pc L (.int i :: .ref a :: st) M := by
  refine ⟨k.1, fun ok ad H locs cells slots ls I hs => ?_⟩
  obtain ⟨hx, hb, hml, hown, hr, hlk, hEx, hnm, hst, hF, hg0, -⟩ := id ok
  subst hi
  have ha : a < mS M := hs.2.1
  have hn : mN M a < 2 ^ 31 := I.2.2.1.2 a
  have he : (rW g ad M)[a]? = some (ad a, .inl (g.2.2.1.1, mN M a, .inl (mI M a))) := by rw [rW_get ha, rE_0 hk]
  refine va_iald hx hb hF.2.2.1 I.2.1.1 a 0 he rfl (vp_in_nI hj hn) hd ?_
  rw [nI_clamp (Nat.lt_trans hj hn)]
  exact k.2 ok ad H locs cells slots ls I ⟨trivial, hs.2.2⟩
theorem rW_sI0 {ad : Nat → Nat} {a j : Nat} {x : Int32} (hk : mK M a = 0) : (rW g ad M).set a (ad a, .inl (g.2.2.1.1, mN M a, .inl (upd (mI M a) j x))) = rW g ad (sI M a j x) := by
  have e : rE g ad (sI M a j x) a = .inl (g.2.2.1.1, mN M a, .inl (upd (mI M a) j x)) := by
    rw [rE_0 (M := sI M a j x) hk]
    show (.inl (g.2.2.1.1, mN M a, .inl (up2 (mI M) a j x a)) : va_E) = _
    rw [up2_I]
  rw [← e]
  exact rW_set rfl (fun i hi => rE_congr rfl rfl (up2_ne hi) rfl rfl)
theorem ew_iastore {a : Nat} {i : Int32} {x : Int32} (j : Nat) (hd : decode Y.2.1 pc = .ok (.iastore, 1)) (hk : mK M a = 0) (hi : i = nI j) (hj : j < mN M a) (k : EW Y g X Z (pc + 1) L st (sI M a j (x))) : EW Y g X Z pc L (.int x :: .int i :: .ref a :: st) M := by
  refine ⟨k.1, fun ok ad H locs cells slots ls I hs => ?_⟩
  obtain ⟨hx, hb, hml, hown, hr, hlk, hEx, hnm, hst, hF, hg0, -⟩ := id ok
  subst hi
  have ha : a < mS M := hs.2.2.1
  have hn : mN M a < 2 ^ 31 := I.2.2.1.2 a
  have he : (rW g ad M)[a]? = some (ad a, .inl (g.2.2.1.1, mN M a, .inl (mI M a))) := by rw [rW_get ha, rE_0 hk]
  refine va_iast hx hb hF.2.2.1 I.2.1.1 I.2.1.2 I.2.2.2.2.1 a 0 he rfl (vp_in_nI hj hn) hd ?_
  rw [nI_clamp (Nat.lt_trans hj hn), rW_sI0 hk]
  intro H1 locs1 p1 d1 s1
  exact k.2 ok ad H1 locs1 cells slots ls ⟨I.1, ⟨p1, d1⟩, I.2.2.1, I.2.2.2.1, s1, I.2.2.2.2.2⟩ hs.2.2.2
theorem ew_zaload {a : Nat} {i : Int32} (j : Nat) (hd : decode Y.2.1 pc = .ok (.baload, 1)) (hk : mK M a = 1) (hi : i = nI j) (hj : j < mN M a) (k : EW Y g X Z (pc + 1) L (.int (mI M a j) :: st) M) : EW Y g X Z pc L (.int i :: .ref a :: st) M := by
  refine ⟨k.1, fun ok ad H locs cells slots ls I hs => ?_⟩
  obtain ⟨hx, hb, hml, hown, hr, hlk, hEx, hnm, hst, hF, hg0, -⟩ := id ok
  subst hi
  have ha : a < mS M := hs.2.1
  have hn : mN M a < 2 ^ 31 := I.2.2.1.2 a
  have he : (rW g ad M)[a]? = some (ad a, .inl (g.2.2.1.2.1, mN M a, .inl (mI M a))) := by rw [rW_get ha, rE_1 hk]
  refine va_zald hx hb hF.2.2.1 I.2.1.1 a 1 he rfl (vp_in_nI hj hn) hd ?_
  rw [nI_clamp (Nat.lt_trans hj hn)]
  exact k.2 ok ad H locs cells slots ls I ⟨trivial, hs.2.2⟩
theorem rW_sI1 {ad : Nat → Nat} {a j : Nat} {x : Int32} (hk : mK M a = 1) : (rW g ad M).set a (ad a, .inl (g.2.2.1.2.1, mN M a, .inl (upd (mI M a) j x))) = rW g ad (sI M a j x) := by
  have e : rE g ad (sI M a j x) a = .inl (g.2.2.1.2.1, mN M a, .inl (upd (mI M a) j x)) := by
    rw [rE_1 (M := sI M a j x) hk]
    show (.inl (g.2.2.1.2.1, mN M a, .inl (up2 (mI M) a j x a)) : va_E) = _
    rw [up2_I]
  rw [← e]
  exact rW_set rfl (fun i hi => rE_congr rfl rfl (up2_ne hi) rfl rfl)
theorem ew_zastore {a : Nat} {i : Int32} {x : Int32} (j : Nat) (hd : decode Y.2.1 pc = .ok (.bastore, 1)) (hk : mK M a = 1) (hi : i = nI j) (hj : j < mN M a) (k : EW Y g X Z (pc + 1) L st (sI M a j (vp_nar .boolean x))) : EW Y g X Z pc L (.int x :: .int i :: .ref a :: st) M := by
  refine ⟨k.1, fun ok ad H locs cells slots ls I hs => ?_⟩
  obtain ⟨hx, hb, hml, hown, hr, hlk, hEx, hnm, hst, hF, hg0, -⟩ := id ok
  subst hi
  have ha : a < mS M := hs.2.2.1
  have hn : mN M a < 2 ^ 31 := I.2.2.1.2 a
  have he : (rW g ad M)[a]? = some (ad a, .inl (g.2.2.1.2.1, mN M a, .inl (mI M a))) := by rw [rW_get ha, rE_1 hk]
  refine va_zast hx hb hF.2.2.1 I.2.1.1 I.2.1.2 I.2.2.2.2.1 a 1 he rfl (vp_in_nI hj hn) hd ?_
  rw [nI_clamp (Nat.lt_trans hj hn), rW_sI1 hk]
  intro H1 locs1 p1 d1 s1
  exact k.2 ok ad H1 locs1 cells slots ls ⟨I.1, ⟨p1, d1⟩, I.2.2.1, I.2.2.2.1, s1, I.2.2.2.2.2⟩ hs.2.2.2
theorem ew_laload {a : Nat} {i : Int32} (j : Nat) (hd : decode Y.2.1 pc = .ok (.laload, 1)) (hk : mK M a = 2) (hi : i = nI j) (hj : j < mN M a) (k : EW Y g X Z (pc + 1) L (.long (mL M a j) :: st) M) : EW Y g X Z pc L (.int i :: .ref a :: st) M := by
  refine ⟨k.1, fun ok ad H locs cells slots ls I hs => ?_⟩
  obtain ⟨hx, hb, hml, hown, hr, hlk, hEx, hnm, hst, hF, hg0, -⟩ := id ok
  subst hi
  have ha : a < mS M := hs.2.1
  have hn : mN M a < 2 ^ 31 := I.2.2.1.2 a
  have he : (rW g ad M)[a]? = some (ad a, .inl (g.2.2.1.2.2, mN M a, .inr (.inl (mL M a)))) := by rw [rW_get ha, rE_2 hk]
  refine va_lald hx hb hF.2.2.1 I.2.1.1 a 2 he rfl (vp_in_nI hj hn) hd ?_
  rw [nI_clamp (Nat.lt_trans hj hn)]
  exact k.2 ok ad H locs cells slots ls I ⟨trivial, hs.2.2⟩
theorem rW_sL2 {ad : Nat → Nat} {a j : Nat} {x : Int64} (hk : mK M a = 2) : (rW g ad M).set a (ad a, .inl (g.2.2.1.2.2, mN M a, .inr (.inl (vp_updL (mL M a) j x)))) = rW g ad (sL M a j x) := by
  have e : rE g ad (sL M a j x) a = .inl (g.2.2.1.2.2, mN M a, .inr (.inl (vp_updL (mL M a) j x))) := by
    rw [rE_2 (M := sL M a j x) hk]
    show (.inl (g.2.2.1.2.2, mN M a, .inr (.inl (up2 (mL M) a j x a))) : va_E) = _
    rw [up2_L]
  rw [← e]
  exact rW_set rfl (fun i hi => rE_congr rfl rfl rfl (up2_ne hi) rfl)
theorem ew_lastore {a : Nat} {i : Int32} {x : Int64} (j : Nat) (hd : decode Y.2.1 pc = .ok (.lastore, 1)) (hk : mK M a = 2) (hi : i = nI j) (hj : j < mN M a) (k : EW Y g X Z (pc + 1) L st (sL M a j (x))) : EW Y g X Z pc L (.long x :: .int i :: .ref a :: st) M := by
  refine ⟨k.1, fun ok ad H locs cells slots ls I hs => ?_⟩
  obtain ⟨hx, hb, hml, hown, hr, hlk, hEx, hnm, hst, hF, hg0, -⟩ := id ok
  subst hi
  have ha : a < mS M := hs.2.2.1
  have hn : mN M a < 2 ^ 31 := I.2.2.1.2 a
  have he : (rW g ad M)[a]? = some (ad a, .inl (g.2.2.1.2.2, mN M a, .inr (.inl (mL M a)))) := by rw [rW_get ha, rE_2 hk]
  refine va_last hx hb hF.2.2.1 I.2.1.1 I.2.1.2 I.2.2.2.2.1 a 2 he rfl (vp_in_nI hj hn) hd ?_
  rw [nI_clamp (Nat.lt_trans hj hn), rW_sL2 hk]
  intro H1 locs1 p1 d1 s1
  exact k.2 ok ad H1 locs1 cells slots ls ⟨I.1, ⟨p1, d1⟩, I.2.2.1, I.2.2.2.1, s1, I.2.2.2.2.2⟩ hs.2.2.2
theorem ew_alen {a : Nat} (hd : decode Y.2.1 pc = .ok (.arraylength, 1)) (hk : mK M a < 3) (k : EW Y g X Z (pc + 1) L (.int (nI (mN M a)) :: st) M) : EW Y g X Z pc L (.ref a :: st) M := by
  refine ⟨k.1, fun ok ad H locs cells slots ls I hs => ?_⟩
  obtain ⟨hx, hb, hml, hown, hr, hlk, hEx, hnm, hst, hF, hg0, -⟩ := id ok
  have ha : a < mS M := hs.1
  have K := k.2 ok ad H locs cells slots ls I ⟨trivial, hs.2⟩
  rcases (show mK M a = 0 ∨ mK M a = 1 ∨ mK M a = 2 by omega) with e | e | e
  · exact va_alen (x := (mN M a, .inl (mI M a))) hx hb hF.2.2.1 I.2.1.1 a 0 (by rw [rW_get ha, rE_0 e]) rfl rfl hd K
  · exact va_alen (x := (mN M a, .inl (mI M a))) hx hb hF.2.2.1 I.2.1.1 a 1 (by rw [rW_get ha, rE_1 e]) rfl rfl hd K
  · exact va_alen (x := (mN M a, .inr (.inl (mL M a)))) hx hb hF.2.2.1 I.2.1.1 a 2 (by rw [rW_get ha, rE_2 e]) rfl rfl hd K
theorem wfM_nA {kd n : Nat} (hw : wfM M) (hkd : kd < 3) (hn : n < 2 ^ 31) : wfM (nA M kd n) := by
  refine ⟨fun k hk h3 j => ?_, fun k => ?_⟩
  · have hk' : k < mS M + 1 := hk
    have h3' : 3 ≤ va_up (mK M) (mS M) kd k := h3
    show wfV (mS M + 1) (mF M k j)
    by_cases e : k = mS M
    · subst e
      rw [va_up_self] at h3'
      omega
    · rw [va_up_ne _ _ e] at h3'
      exact wfV_mono (Nat.le_succ _) (hw.1 k (by omega) h3' j)
  · show va_up (mN M) (mS M) n k < 2 ^ 31
    by_cases e : k = mS M
    · subst e
      rw [va_up_self]
      exact hn
    · rw [va_up_ne _ _ e]
      exact hw.2 k
theorem ad_up {ad : Nat → Nat} {n q : Nat} : ∀ k, k < n → va_up ad n q k = ad k := fun k hk => va_up_ne _ _ (Nat.ne_of_lt hk)
theorem ew_newarray_i {i : Int32} (n : Nat) (hd : decode Y.2.1 pc = .ok (.newarray .int, 2)) (hi : i = nI n) (hn : n ≤ 67108864) (k : EW Y g X Z (pc + 2) L (.ref (mS M) :: st) (nA M 0 n)) : EW Y g X Z pc L (.int i :: st) M := by
  refine ⟨⟨Nat.le_trans (Nat.le_succ _) k.1.1, Nat.le_trans (Nat.le_add_right _ _) k.1.2.1, Nat.le_trans (Nat.le_succ _) k.1.2.2⟩, fun ok ad H locs cells slots ls I hs => ?_⟩
  obtain ⟨hx, hb, hml, hown, hr, hlk, hEx, hnm, hst, hF, hg0, hfr, hlo, hRc, hRs⟩ := id ok
  have k1 : mC M + 1 ≤ mC (zf Z) := k.1.1
  have k2 : mT M + n ≤ mT (zf Z) := k.1.2.1
  have c1 := I.2.2.2.2.2.2.1
  have c2 := I.2.2.2.2.2.2.2
  subst hi
  have hn31 : n < 2 ^ 31 := by omega
  refine va_newa (atype := .int) (a0 := (n, .inl (fun _ => 0))) (N' := n) (ty := .int) hx hb (hF.word qAr_i _) rfl hF.2.2.1 I.2.1.1 I.2.1.2 I.2.2.2.2.1 (fun q hq => Nat.le_trans hg0 hq) (fun cA => rfl) (nI_pos hn31) (nI_clamp hn31) (by show n * _ ≤ _; simp [componentBytes]; omega) (by omega) (by omega) hd ?_
  intro q cA H1 hK1 p1 d1 s1
  have e1 : cA = g.2.2.1.1 := by
    have h3 := (hK1.2 3 (cA, .int) rfl).2
    have h0 := (hF.2.2.1.2 0 (g.2.2.1.1, .int) rfl).2
    exact Option.some.inj (Eq.trans (Eq.symm h3) h0)
  rw [e1] at p1 d1
  have e2 : rE g (va_up ad (mS M) q) (nA M 0 n) (mS M) = .inl (g.2.2.1.1, (n, .inl (fun _ => 0))) := by
    have hk9 : mK (nA M 0 n) (mS M) = 0 := va_up_self _ _ _
    rw [rE_0 hk9]
    have h5 : mN (nA M 0 n) (mS M) = n := va_up_self _ _ _
    have h6 : mI (nA M 0 n) (mS M) = (fun _ => 0) := va_up_self _ _ _
    rw [h5, h6]
  have e3 : rW g ad M ++ [(q, .inl (g.2.2.1.1, (n, .inl (fun _ => 0))))] = rW g (va_up ad (mS M) q) (nA M 0 n) := by
    rw [← e2]
    refine rW_push rfl (va_up_self _ _ _) (fun j hj => ⟨ad_up j hj, ?_⟩)
    rw [← rE_ext I.2.2.1 (ad_up (q := q)) hj]
    exact rE_congr (va_up_ne' hj) (va_up_ne' hj) (va_up_ne' hj) (va_up_ne' hj) rfl
  rw [e3] at p1 d1
  have K := k.2 ok (va_up ad (mS M) q) H1 locs (cells + 1) (slots + n) ls ⟨⟨Nat.le_trans I.1.1 (Nat.le_succ _), fun j hj => (ad_up j (Nat.lt_of_lt_of_le hj I.1.1)).trans (I.1.2 j hj)⟩, ⟨p1, d1⟩, wfM_nA I.2.2.1 (by decide) hn31, wfL_mono (Nat.le_succ _) I.2.2.2.1, s1, by rw [rL_ext (ad_up (q := q)) I.2.2.2.1]; exact I.2.2.2.2.2.1, by show cells + 1 + _ = mC M + 1; omega, by show slots + n + _ = mT M + n; omega⟩ ⟨Nat.lt_succ_self _, wfS_mono (Nat.le_succ _) hs.2⟩
  rw [List.map_cons, rS_ext (ad_up (q := q)) hs.2, show rV g (va_up ad (mS M) q) (.ref (mS M)) = .ref q from congrArg Value.ref (va_up_self _ _ _)] at K
  exact K
theorem ew_newarray_z {i : Int32} (n : Nat) (hd : decode Y.2.1 pc = .ok (.newarray .boolean, 2)) (hi : i = nI n) (hn : n ≤ 67108864) (k : EW Y g X Z (pc + 2) L (.ref (mS M) :: st) (nA M 1 n)) : EW Y g X Z pc L (.int i :: st) M := by
  refine ⟨⟨Nat.le_trans (Nat.le_succ _) k.1.1, Nat.le_trans (Nat.le_add_right _ _) k.1.2.1, Nat.le_trans (Nat.le_succ _) k.1.2.2⟩, fun ok ad H locs cells slots ls I hs => ?_⟩
  obtain ⟨hx, hb, hml, hown, hr, hlk, hEx, hnm, hst, hF, hg0, hfr, hlo, hRc, hRs⟩ := id ok
  have k1 : mC M + 1 ≤ mC (zf Z) := k.1.1
  have k2 : mT M + n ≤ mT (zf Z) := k.1.2.1
  have c1 := I.2.2.2.2.2.2.1
  have c2 := I.2.2.2.2.2.2.2
  subst hi
  have hn31 : n < 2 ^ 31 := by omega
  refine va_newa (atype := .boolean) (a0 := (n, .inl (fun _ => 0))) (N' := n) (ty := .boolean) hx hb (hF.word qAr_z _) rfl hF.2.2.1 I.2.1.1 I.2.1.2 I.2.2.2.2.1 (fun q hq => Nat.le_trans hg0 hq) (fun cA => rfl) (nI_pos hn31) (nI_clamp hn31) (by show n * _ ≤ _; simp [componentBytes]; omega) (by omega) (by omega) hd ?_
  intro q cA H1 hK1 p1 d1 s1
  have e1 : cA = g.2.2.1.2.1 := by
    have h3 := (hK1.2 3 (cA, .boolean) rfl).2
    have h0 := (hF.2.2.1.2 1 (g.2.2.1.2.1, .boolean) rfl).2
    exact Option.some.inj (Eq.trans (Eq.symm h3) h0)
  rw [e1] at p1 d1
  have e2 : rE g (va_up ad (mS M) q) (nA M 1 n) (mS M) = .inl (g.2.2.1.2.1, (n, .inl (fun _ => 0))) := by
    have hk9 : mK (nA M 1 n) (mS M) = 1 := va_up_self _ _ _
    rw [rE_1 hk9]
    have h5 : mN (nA M 1 n) (mS M) = n := va_up_self _ _ _
    have h6 : mI (nA M 1 n) (mS M) = (fun _ => 0) := va_up_self _ _ _
    rw [h5, h6]
  have e3 : rW g ad M ++ [(q, .inl (g.2.2.1.2.1, (n, .inl (fun _ => 0))))] = rW g (va_up ad (mS M) q) (nA M 1 n) := by
    rw [← e2]
    refine rW_push rfl (va_up_self _ _ _) (fun j hj => ⟨ad_up j hj, ?_⟩)
    rw [← rE_ext I.2.2.1 (ad_up (q := q)) hj]
    exact rE_congr (va_up_ne' hj) (va_up_ne' hj) (va_up_ne' hj) (va_up_ne' hj) rfl
  rw [e3] at p1 d1
  have K := k.2 ok (va_up ad (mS M) q) H1 locs (cells + 1) (slots + n) ls ⟨⟨Nat.le_trans I.1.1 (Nat.le_succ _), fun j hj => (ad_up j (Nat.lt_of_lt_of_le hj I.1.1)).trans (I.1.2 j hj)⟩, ⟨p1, d1⟩, wfM_nA I.2.2.1 (by decide) hn31, wfL_mono (Nat.le_succ _) I.2.2.2.1, s1, by rw [rL_ext (ad_up (q := q)) I.2.2.2.1]; exact I.2.2.2.2.2.1, by show cells + 1 + _ = mC M + 1; omega, by show slots + n + _ = mT M + n; omega⟩ ⟨Nat.lt_succ_self _, wfS_mono (Nat.le_succ _) hs.2⟩
  rw [List.map_cons, rS_ext (ad_up (q := q)) hs.2, show rV g (va_up ad (mS M) q) (.ref (mS M)) = .ref q from congrArg Value.ref (va_up_self _ _ _)] at K
  exact K
theorem ew_newarray_l {i : Int32} (n : Nat) (hd : decode Y.2.1 pc = .ok (.newarray .long, 2)) (hi : i = nI n) (hn : n ≤ 67108864) (k : EW Y g X Z (pc + 2) L (.ref (mS M) :: st) (nA M 2 n)) : EW Y g X Z pc L (.int i :: st) M := by
  refine ⟨⟨Nat.le_trans (Nat.le_succ _) k.1.1, Nat.le_trans (Nat.le_add_right _ _) k.1.2.1, Nat.le_trans (Nat.le_succ _) k.1.2.2⟩, fun ok ad H locs cells slots ls I hs => ?_⟩
  obtain ⟨hx, hb, hml, hown, hr, hlk, hEx, hnm, hst, hF, hg0, hfr, hlo, hRc, hRs⟩ := id ok
  have k1 : mC M + 1 ≤ mC (zf Z) := k.1.1
  have k2 : mT M + n ≤ mT (zf Z) := k.1.2.1
  have c1 := I.2.2.2.2.2.2.1
  have c2 := I.2.2.2.2.2.2.2
  subst hi
  have hn31 : n < 2 ^ 31 := by omega
  refine va_newa (atype := .long) (a0 := (n, .inr (.inl (fun _ => 0)))) (N' := n) (ty := .long) hx hb (hF.word qAr_l _) rfl hF.2.2.1 I.2.1.1 I.2.1.2 I.2.2.2.2.1 (fun q hq => Nat.le_trans hg0 hq) (fun cA => rfl) (nI_pos hn31) (nI_clamp hn31) (by show n * _ ≤ _; simp [componentBytes]; omega) (by omega) (by omega) hd ?_
  intro q cA H1 hK1 p1 d1 s1
  have e1 : cA = g.2.2.1.2.2 := by
    have h3 := (hK1.2 3 (cA, .long) rfl).2
    have h0 := (hF.2.2.1.2 2 (g.2.2.1.2.2, .long) rfl).2
    exact Option.some.inj (Eq.trans (Eq.symm h3) h0)
  rw [e1] at p1 d1
  have e2 : rE g (va_up ad (mS M) q) (nA M 2 n) (mS M) = .inl (g.2.2.1.2.2, (n, .inr (.inl (fun _ => 0)))) := by
    have hk9 : mK (nA M 2 n) (mS M) = 2 := va_up_self _ _ _
    rw [rE_2 hk9]
    have h5 : mN (nA M 2 n) (mS M) = n := va_up_self _ _ _
    have h6 : mL (nA M 2 n) (mS M) = (fun _ => 0) := va_up_self _ _ _
    rw [h5, h6]
  have e3 : rW g ad M ++ [(q, .inl (g.2.2.1.2.2, (n, .inr (.inl (fun _ => 0)))))] = rW g (va_up ad (mS M) q) (nA M 2 n) := by
    rw [← e2]
    refine rW_push rfl (va_up_self _ _ _) (fun j hj => ⟨ad_up j hj, ?_⟩)
    rw [← rE_ext I.2.2.1 (ad_up (q := q)) hj]
    exact rE_congr (va_up_ne' hj) (va_up_ne' hj) (va_up_ne' hj) (va_up_ne' hj) rfl
  rw [e3] at p1 d1
  have K := k.2 ok (va_up ad (mS M) q) H1 locs (cells + 1) (slots + n) ls ⟨⟨Nat.le_trans I.1.1 (Nat.le_succ _), fun j hj => (ad_up j (Nat.lt_of_lt_of_le hj I.1.1)).trans (I.1.2 j hj)⟩, ⟨p1, d1⟩, wfM_nA I.2.2.1 (by decide) hn31, wfL_mono (Nat.le_succ _) I.2.2.2.1, s1, by rw [rL_ext (ad_up (q := q)) I.2.2.2.1]; exact I.2.2.2.2.2.1, by show cells + 1 + _ = mC M + 1; omega, by show slots + n + _ = mT M + n; omega⟩ ⟨Nat.lt_succ_self _, wfS_mono (Nat.le_succ _) hs.2⟩
  rw [List.map_cons, rS_ext (ad_up (q := q)) hs.2, show rV g (va_up ad (mS M) q) (.ref (mS M)) = .ref q from congrArg Value.ref (va_up_self _ _ _)] at K
  exact K
theorem rV_df (ad : Nat → Nat) (ty : FieldType) : rV g ad (defaultValue ty) = defaultValue ty := by cases ty <;> rfl
theorem wfV_df (n : Nat) (ty : FieldType) : wfV n (defaultValue ty) := by cases ty <;> trivial
theorem wfM_nO {ci : Nat} (hw : wfM M) : wfM (nO M ci) := by
  refine ⟨fun k hk h3 j => ?_, hw.2⟩
  have hk' : k < mS M + 1 := hk
  have h3' : 3 ≤ va_up (mK M) (mS M) (ci + 3) k := h3
  show wfV (mS M + 1) (va_up (mF M) (mS M) (qDf ci) k j)
  by_cases e : k = mS M
  · subst e
    rw [va_up_self]
    exact wfV_df _ _
  · rw [va_up_ne _ _ e] at h3' ⊢
    exact wfV_mono (Nat.le_succ _) (hw.1 k (by omega) h3' j)
theorem ew_new {ix : Nat} (ci : Nat) (hd : decode Y.2.1 pc = .ok (.new ix, 3)) (hf : qNw Y.1.cls ix ci) (k : EW Y g X Z (pc + 3) L (.ref (mS M) :: st) (nO M ci)) : EW Y g X Z pc L st M := by
  refine ⟨⟨Nat.le_trans (Nat.le_succ _) k.1.1, Nat.le_trans (Nat.le_add_right _ _) k.1.2.1, Nat.le_trans (Nat.le_succ _) k.1.2.2⟩, fun ok ad H locs cells slots ls I hs => ?_⟩
  obtain ⟨C, T, N, hc, hcl, hinst, hini⟩ := hf
  obtain ⟨hx, hb, hml, hown, hr, hlk, hEx, hnm, hst, hF, hg0, hfr, hlo, hRc, hRs⟩ := id ok
  have hN : qNf ci = N := by simp [qNf, hc]
  have k1 : mC M + 1 ≤ mC (zf Z) := k.1.1
  have k2 : mT M + qNf ci ≤ mT (zf Z) := k.1.2.1
  have c1 := I.2.2.2.2.2.2.1
  have c2 := I.2.2.2.2.2.2.2
  have hts : ∀ w ∈ qTT, w.before (xa X) (xs X) = true := fun w hw => hF.word hw _
  refine va_new (ci := ci) (fs := (List.range (qNf ci)).map (fun j => defaultValue (qTy ci j))) (C := C) (T := T) (N := N) hx hb hts (qCl_ws ci C T N hc) (qTy ci) (qTy_ok ci C T N hc) hown (hts _ hcl) (hts _ hinst) (hts _ hini) hF.2.2.1 I.2.1.1 I.2.1.2 I.2.2.2.2.1 (fun q hq => Nat.le_trans hg0 hq) hc (fun j hj => by simp [vp_V, List.getD, hN, hj]) (by omega) (by omega) hd ?_
  intro q H1 p1 d1 s1
  have e2 : rE g (va_up ad (mS M) q) (nO M ci) (mS M) = .inr (ci, (List.range (qNf ci)).map (fun j => defaultValue (qTy ci j))) := by
    have hk9 : mK (nO M ci) (mS M) = ci + 3 := va_up_self _ _ _
    rw [rE_3 hk9]
    have h6 : mF (nO M ci) (mS M) = qDf ci := va_up_self _ _ _
    rw [h6]
    congr 2
    apply List.map_congr_left
    intro j _
    exact rV_df _ _
  have e3 : rW g ad M ++ [(q, .inr (ci, (List.range (qNf ci)).map (fun j => defaultValue (qTy ci j))))] = rW g (va_up ad (mS M) q) (nO M ci) := by
    rw [← e2]
    refine rW_push rfl (va_up_self _ _ _) (fun j hj => ⟨ad_up j hj, ?_⟩)
    rw [← rE_ext I.2.2.1 (ad_up (q := q)) hj]
    exact rE_congr (va_up_ne' hj) rfl rfl rfl (va_up_ne' hj)
  rw [e3] at p1 d1
  have K := k.2 ok (va_up ad (mS M) q) H1 locs (cells + 1) (slots + N) ls ⟨⟨Nat.le_trans I.1.1 (Nat.le_succ _), fun j hj => (ad_up j (Nat.lt_of_lt_of_le hj I.1.1)).trans (I.1.2 j hj)⟩, ⟨p1, d1⟩, wfM_nO I.2.2.1, wfL_mono (Nat.le_succ _) I.2.2.2.1, s1, by rw [rL_ext (ad_up (q := q)) I.2.2.2.1]; exact I.2.2.2.2.2.1, by show cells + 1 + _ = mC M + 1; omega, by show slots + N + _ = mT M + qNf ci; omega⟩ ⟨Nat.lt_succ_self _, wfS_mono (Nat.le_succ _) hs⟩
  rw [List.map_cons, rS_ext (ad_up (q := q)) hs, show rV g (va_up ad (mS M) q) (.ref (mS M)) = .ref q from congrArg Value.ref (va_up_self _ _ _)] at K
  exact K
theorem ew_ireturn {v : Int32} (hd : decode Y.2.1 pc = .ok (.ireturn, 1)) (hy : Y.2.2.2 = some .int) (hz : zr Z = .inl (some (.int v))) (hm : zf Z = M) : EW Y g X Z pc L [.int v] M := by
  refine ⟨by rw [hm]; exact ⟨Nat.le_refl _, Nat.le_refl _, Nat.le_refl _⟩, fun ok ad H locs cells slots ls I hs => ?_⟩
  obtain ⟨hx, hb, hml, hown, hr, hlk, hEx, hnm, hst, hF, hg0, hfr, hlo, hRc, hRs⟩ := id ok
  have c1 := I.2.2.2.2.2.2.1
  have c2 := I.2.2.2.2.2.2.2
  have e1 : cells = mC (zf Z) - mC (z0 Z) := by rw [hm]; omega
  have e2 : slots = mT (zf Z) - mT (z0 Z) := by rw [hm]; omega
  have K := W.iret (Qc := fun _ st o t => (∃ (v : Option Value) (ad : Nat → Nat), zr Z = .inl v ∧ o = .returned (v.map (rV g ad)) ∧ (∀ k, k < mS (z0 Z) → ad k = za Z k) ∧ qR g ad (zf Z) t.heap ∧ wfM (zf Z) ∧ wfS (mS (zf Z)) v.toList) ∧ va_F (qA g) st t) (free := qA g) (p := xp X) (l := xl X) (e := xe X) (R := xR X) (s := xs X) (m := xm X) (args := xa X) (below := xb X) (meth := xh X) (c := xc X) (H := H) (locs := locs) (cells := cells) (slots := slots) (ls := ls) hx hb (hr.trans hy) (fun t ht hW => ⟨⟨some (.int v), ad, hz, rfl, I.1.2, by rw [ht, hm]; exact I.2.1, by rw [hm]; exact I.2.2.1, by rw [hm]; exact ⟨trivial, trivial⟩⟩, I.2.2.2.2.1.F ht⟩) I.2.2.2.2.1.2.2 hd hlk
  intro T hT X0
  obtain ⟨t, a1, o, b1, b2, b3, b4⟩ := K T hT X0
  refine ⟨t, a1, o, b1, b2, Or.inl ⟨b3.1, b3.2, ?_⟩⟩
  rw [← e1, ← e2]
  exact b4
theorem ew_zreturn {v : Int32} (hd : decode Y.2.1 pc = .ok (.ireturn, 1)) (hy : Y.2.2.2 = some .boolean) (hz : zr Z = .inl (some (.int v))) (hm : zf Z = M) (hb1 : narrow .boolean (.int v) = .int v) : EW Y g X Z pc L [.int v] M := by
  refine ⟨by rw [hm]; exact ⟨Nat.le_refl _, Nat.le_refl _, Nat.le_refl _⟩, fun ok ad H locs cells slots ls I hs => ?_⟩
  obtain ⟨hx, hb, hml, hown, hr, hlk, hEx, hnm, hst, hF, hg0, hfr, hlo, hRc, hRs⟩ := id ok
  have c1 := I.2.2.2.2.2.2.1
  have c2 := I.2.2.2.2.2.2.2
  have e1 : cells = mC (zf Z) - mC (z0 Z) := by rw [hm]; omega
  have e2 : slots = mT (zf Z) - mT (z0 Z) := by rw [hm]; omega
  have K := W.zret (Qc := fun _ st o t => (∃ (v : Option Value) (ad : Nat → Nat), zr Z = .inl v ∧ o = .returned (v.map (rV g ad)) ∧ (∀ k, k < mS (z0 Z) → ad k = za Z k) ∧ qR g ad (zf Z) t.heap ∧ wfM (zf Z) ∧ wfS (mS (zf Z)) v.toList) ∧ va_F (qA g) st t) (free := qA g) (p := xp X) (l := xl X) (e := xe X) (R := xR X) (s := xs X) (m := xm X) (args := xa X) (below := xb X) (meth := xh X) (c := xc X) (H := H) (locs := locs) (cells := cells) (slots := slots) (ls := ls) hx hb (hr.trans hy) hb1 (fun t ht hW => ⟨⟨some (.int v), ad, hz, rfl, I.1.2, by rw [ht, hm]; exact I.2.1, by rw [hm]; exact I.2.2.1, by rw [hm]; exact ⟨trivial, trivial⟩⟩, I.2.2.2.2.1.F ht⟩) I.2.2.2.2.1.2.2 hd hlk
  intro T hT X0
  obtain ⟨t, a1, o, b1, b2, b3, b4⟩ := K T hT X0
  refine ⟨t, a1, o, b1, b2, Or.inl ⟨b3.1, b3.2, ?_⟩⟩
  rw [← e1, ← e2]
  exact b4
theorem ew_lreturn {v : Int64} (hd : decode Y.2.1 pc = .ok (.lreturn, 1)) (hy : Y.2.2.2 = some .long) (hz : zr Z = .inl (some (.long v))) (hm : zf Z = M) : EW Y g X Z pc L [.long v] M := by
  refine ⟨by rw [hm]; exact ⟨Nat.le_refl _, Nat.le_refl _, Nat.le_refl _⟩, fun ok ad H locs cells slots ls I hs => ?_⟩
  obtain ⟨hx, hb, hml, hown, hr, hlk, hEx, hnm, hst, hF, hg0, hfr, hlo, hRc, hRs⟩ := id ok
  have c1 := I.2.2.2.2.2.2.1
  have c2 := I.2.2.2.2.2.2.2
  have e1 : cells = mC (zf Z) - mC (z0 Z) := by rw [hm]; omega
  have e2 : slots = mT (zf Z) - mT (z0 Z) := by rw [hm]; omega
  have K := W.lret (Qc := fun _ st o t => (∃ (v : Option Value) (ad : Nat → Nat), zr Z = .inl v ∧ o = .returned (v.map (rV g ad)) ∧ (∀ k, k < mS (z0 Z) → ad k = za Z k) ∧ qR g ad (zf Z) t.heap ∧ wfM (zf Z) ∧ wfS (mS (zf Z)) v.toList) ∧ va_F (qA g) st t) (free := qA g) (p := xp X) (l := xl X) (e := xe X) (R := xR X) (s := xs X) (m := xm X) (args := xa X) (below := xb X) (meth := xh X) (c := xc X) (H := H) (locs := locs) (cells := cells) (slots := slots) (ls := ls) hx hb (hr.trans hy) (fun t ht hW => ⟨⟨some (.long v), ad, hz, rfl, I.1.2, by rw [ht, hm]; exact I.2.1, by rw [hm]; exact I.2.2.1, by rw [hm]; exact ⟨trivial, trivial⟩⟩, I.2.2.2.2.1.F ht⟩) I.2.2.2.2.1.2.2 hd hlk
  intro T hT X0
  obtain ⟨t, a1, o, b1, b2, b3, b4⟩ := K T hT X0
  refine ⟨t, a1, o, b1, b2, Or.inl ⟨b3.1, b3.2, ?_⟩⟩
  rw [← e1, ← e2]
  exact b4
theorem ew_return (hd : decode Y.2.1 pc = .ok (.return_, 1)) (hy : Y.2.2.2 = none) (hz : zr Z = .inl (none)) (hm : zf Z = M) : EW Y g X Z pc L [] M := by
  refine ⟨by rw [hm]; exact ⟨Nat.le_refl _, Nat.le_refl _, Nat.le_refl _⟩, fun ok ad H locs cells slots ls I hs => ?_⟩
  obtain ⟨hx, hb, hml, hown, hr, hlk, hEx, hnm, hst, hF, hg0, hfr, hlo, hRc, hRs⟩ := id ok
  have c1 := I.2.2.2.2.2.2.1
  have c2 := I.2.2.2.2.2.2.2
  have e1 : cells = mC (zf Z) - mC (z0 Z) := by rw [hm]; omega
  have e2 : slots = mT (zf Z) - mT (z0 Z) := by rw [hm]; omega
  have K := W.vret (Qc := fun _ st o t => (∃ (v : Option Value) (ad : Nat → Nat), zr Z = .inl v ∧ o = .returned (v.map (rV g ad)) ∧ (∀ k, k < mS (z0 Z) → ad k = za Z k) ∧ qR g ad (zf Z) t.heap ∧ wfM (zf Z) ∧ wfS (mS (zf Z)) v.toList) ∧ va_F (qA g) st t) (free := qA g) (p := xp X) (l := xl X) (e := xe X) (R := xR X) (s := xs X) (m := xm X) (args := xa X) (below := xb X) (meth := xh X) (c := xc X) (H := H) (locs := locs) (cells := cells) (slots := slots) (ls := ls) hx hb (hr.trans hy) (fun t ht hW => ⟨⟨none, ad, hz, rfl, I.1.2, by rw [ht, hm]; exact I.2.1, by rw [hm]; exact I.2.2.1, by rw [hm]; exact trivial⟩, I.2.2.2.2.1.F ht⟩) I.2.2.2.2.1.2.2 hd hlk
  intro T hT X0
  obtain ⟨t, a1, o, b1, b2, b3, b4⟩ := K T hT X0
  refine ⟨t, a1, o, b1, b2, Or.inl ⟨b3.1, b3.2, ?_⟩⟩
  rw [← e1, ← e2]
  exact b4
end EWH
/-- a contract: from M with these arguments the method comes to res, the memory then is Mf -/
def CT (Y : qY) (fr lo : Nat) (As : List Value) (M : PM) (res : Option Value ⊕ String) (Mf : PM) : Prop :=
  (∀ (_ : qG) (_ : qX), mC M ≤ mC Mf ∧ mT M ≤ mT Mf ∧ mS M ≤ mS Mf) ∧ ∀ (l : Launch) (g : qG) (ad : Nat → Nat), l.stackTraces = false → wfM M → wfS (mS M) As → MetFree l Y.1 (headSpec [Cond.code Y.1 Y.2.1 Y.2.2.1 Y.2.2.2] { frames := fr, cells := mC Mf - mC M, slots := mT Mf - mT M, locals := lo }) (va_Pc (As.map (rV g ad)) (fun U => g.1 ≤ U.heap.size ∧ qF g U U.heap ∧ qR g ad M U.heap)) (fun _ _ _ _ _ => True) (fun _ st o t => qEd g ad M res Mf st o t)
theorem lv_args_r (g : qG) (ad : Nat → Nat) : ∀ (As : List Value) (i : Nat), lv_args i (As.map (rV g ad)) = rL g ad (lv_args i As) := by
  intro As
  induction As with
  | nil => intro i; rfl
  | cons v t ih =>
    intro i
    simp only [List.map_cons, lv_args, rV_cat, ih, rL]
theorem lg_sl_r (g : qG) (ad : Nat → Nat) : ∀ (As : List Value), (lg_sl (As.map (rV g ad))).length = (lg_sl As).length := by
  intro As
  induction As with
  | nil => rfl
  | cons v t ih =>
    have h1 : ∀ (u : Value) (r : List Value), (lg_sl (u :: r)).length = (if u.category = 2 then 2 else 1) + (lg_sl r).length := by
      intro u r
      by_cases h : u.category = 2 <;> simp [lg_sl, h] <;> omega
    rw [List.map_cons, h1, h1, rV_cat, ih]
theorem wf_args (n : Nat) : ∀ (As : List Value) (i : Nat), wfS n As → wfL n (lv_args i As) := by
  intro As
  induction As with
  | nil => intro i _ q hq; cases hq
  | cons v t ih =>
    intro i h q hq
    rcases List.mem_cons.mp hq with e | e
    · rw [e]; exact h.1
    · exact ih _ h.2 q e
theorem CT_of {Y : qY} {fr lo : Nat} {As : List Value} {M Mf : PM} {res : Option Value ⊕ String} (hp : plainName Y.1.cls = true) (hn : (lg_sl As).length ≤ Y.2.2.1)
    (h : ∀ (g : qG) (X : qX) (ad0 : Nat → Nat), EW Y g X (ad0, M, res, Mf, fr, lo) 0 (lv_args 0 As) [] M) : CT Y fr lo As M res Mf := by
  refine ⟨fun g X => (h g X (fun j => j)).1, fun l g ad hst hwM hwA => ?_⟩
  refine MetFree.of_bodyS (code := Y.2.1) (maxLocals := Y.2.2.1) (ret := Y.2.2.2) hp ?_ ?_
  · intro args s m hh hn9
    obtain ⟨meth, c, h1, h2, h3, h4, h5, h6, -, -⟩ := Cond.code_spec hn9 (atoms_spec (ws := [Cond.code Y.1 Y.2.1 Y.2.2.1 Y.2.2.2]) hh _ (List.mem_singleton.mpr rfl))
    exact ⟨meth, c, h1, h2, h3, h4, h5, h6⟩
  · intro p e s m args below meth c s₁ B hml hv _
    obtain ⟨rfl, hg, hF, hR⟩ := hv
    have hh0 : s₁.heap = s.heap := by rw [B.state]; rfl
    have hEx : ∀ x ∈ c.exceptionTable.toList, False := by
      obtain ⟨meth9, c9, h1, h2, -, -, -, -, h7, -⟩ := Cond.code_spec B.named (atoms_spec (ws := [Cond.code Y.1 Y.2.1 Y.2.2.1 Y.2.2.2]) B.pre _ (List.mem_singleton.mpr rfl))
      cases Option.some.inj (h1.symm.trans B.method)
      cases Option.some.inj (h2.symm.trans (Stand.of_body B).code)
      intro x hx
      rw [Array.isEmpty_iff.mp h7] at hx
      cases hx
    have hl := lv_entry (As.map (rV g ad)) (n := Y.2.2.1) (by rw [lg_sl_r]; exact hn)
    rw [lv_args_r] at hl
    have K := (h g (p, l, e, ({ frames := fr, cells := mC Mf - mC M, slots := mT Mf - mT M, locals := lo } : Room), s, m, (As.map (rV g ad)).toArray, below, meth, c) ad).2 ⟨B.exec, B.bytes, hml, findClass_of_methodNamed B.named, B.returns, B.notSynchronized, hEx, (name_of_methodNamed B.named B.method).1, hst, hF, hg, Nat.le_refl _, Nat.le_refl _, Nat.le_refl _, Nat.le_refl _⟩ ad s.heap [] 0 0 _ ⟨⟨Nat.le_refl _, fun _ _ => rfl⟩, hR, hwM, wf_args _ As 0 hwA, va_S.rf, hl, Nat.zero_add _, Nat.zero_add _⟩ trivial
    rw [lg_entry_eq]
    obtain ⟨t, a1, o, b1, b2, b3⟩ := K s₁ hh0 (Stand.of_body B)
    exact ⟨t, o, a1, b1, b2, b3⟩
end
