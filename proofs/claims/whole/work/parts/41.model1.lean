theorem d_XModel_isWord_0 : decode Y_XModel_isWord.2.1 0 = .ok (.iload_n 1, 1) := by decide +kernel
theorem d_XModel_isWord_1 : decode Y_XModel_isWord.2.1 1 = .ok (.istore_n 2, 1) := by decide +kernel
theorem d_XModel_isWord_2 : decode Y_XModel_isWord.2.1 2 = .ok (.aload_n 0, 1) := by decide +kernel
theorem d_XModel_isWord_3 : decode Y_XModel_isWord.2.1 3 = .ok (.getfield 13, 3) := by decide +kernel
theorem d_XModel_isWord_6 : decode Y_XModel_isWord.2.1 6 = .ok (.iload_n 2, 1) := by decide +kernel
theorem d_XModel_isWord_7 : decode Y_XModel_isWord.2.1 7 = .ok (.iaload, 1) := by decide +kernel
theorem d_XModel_isWord_8 : decode Y_XModel_isWord.2.1 8 = .ok (.bipush (9), 2) := by decide +kernel
theorem d_XModel_isWord_10 : decode Y_XModel_isWord.2.1 10 = .ok (.if_icmp .ne (13), 3) := by decide +kernel
theorem d_XModel_isWord_13 : decode Y_XModel_isWord.2.1 13 = .ok (.aload_n 0, 1) := by decide +kernel
theorem d_XModel_isWord_14 : decode Y_XModel_isWord.2.1 14 = .ok (.getfield 20, 3) := by decide +kernel
theorem d_XModel_isWord_17 : decode Y_XModel_isWord.2.1 17 = .ok (.iload_n 2, 1) := by decide +kernel
theorem d_XModel_isWord_18 : decode Y_XModel_isWord.2.1 18 = .ok (.iaload, 1) := by decide +kernel
theorem d_XModel_isWord_19 : decode Y_XModel_isWord.2.1 19 = .ok (.istore_n 2, 1) := by decide +kernel
theorem d_XModel_isWord_20 : decode Y_XModel_isWord.2.1 20 = .ok (.goto (-18), 3) := by decide +kernel
theorem d_XModel_isWord_23 : decode Y_XModel_isWord.2.1 23 = .ok (.aload_n 0, 1) := by decide +kernel
theorem d_XModel_isWord_24 : decode Y_XModel_isWord.2.1 24 = .ok (.getfield 13, 3) := by decide +kernel
theorem d_XModel_isWord_27 : decode Y_XModel_isWord.2.1 27 = .ok (.iload_n 2, 1) := by decide +kernel
theorem d_XModel_isWord_28 : decode Y_XModel_isWord.2.1 28 = .ok (.iaload, 1) := by decide +kernel
theorem d_XModel_isWord_29 : decode Y_XModel_isWord.2.1 29 = .ok (.iconst 3, 1) := by decide +kernel
theorem d_XModel_isWord_30 : decode Y_XModel_isWord.2.1 30 = .ok (.if_icmp .eq (13), 3) := by decide +kernel
theorem d_XModel_isWord_33 : decode Y_XModel_isWord.2.1 33 = .ok (.aload_n 0, 1) := by decide +kernel
theorem d_XModel_isWord_34 : decode Y_XModel_isWord.2.1 34 = .ok (.getfield 13, 3) := by decide +kernel
theorem d_XModel_isWord_37 : decode Y_XModel_isWord.2.1 37 = .ok (.iload_n 2, 1) := by decide +kernel
theorem d_XModel_isWord_38 : decode Y_XModel_isWord.2.1 38 = .ok (.iaload, 1) := by decide +kernel
theorem d_XModel_isWord_39 : decode Y_XModel_isWord.2.1 39 = .ok (.iconst 5, 1) := by decide +kernel
theorem d_XModel_isWord_40 : decode Y_XModel_isWord.2.1 40 = .ok (.if_icmp .ne (7), 3) := by decide +kernel
theorem d_XModel_isWord_43 : decode Y_XModel_isWord.2.1 43 = .ok (.iconst 1, 1) := by decide +kernel
theorem d_XModel_isWord_44 : decode Y_XModel_isWord.2.1 44 = .ok (.goto (4), 3) := by decide +kernel
theorem d_XModel_isWord_47 : decode Y_XModel_isWord.2.1 47 = .ok (.iconst 0, 1) := by decide +kernel
theorem d_XModel_isWord_48 : decode Y_XModel_isWord.2.1 48 = .ok (.ireturn, 1) := by decide +kernel
def F_XModel_isWord_48 (n : Nat) (s0 : Int32) (M : PM) : qO :=
  rZ s0 M
set_option maxHeartbeats 4000000 in
set_option maxRecDepth 100000 in
theorem E_XModel_isWord_48 {g : qG} {X : qX} {Z : qZ} (hn : 0 ≤ zn Z) (hl : 0 ≤ zl Z) {n : Nat} {s0 : Int32} {M : PM} (h : F_XModel_isWord_48 n s0 M = some (zr Z, zf Z)) : EW Y_XModel_isWord g X Z 48 [] [.int s0] M := by
  unfold F_XModel_isWord_48 at h
  obtain ⟨hb, h⟩ := rZ_inv h
  obtain ⟨hz, hm⟩ := Prod.mk.inj (Option.some.inj h)
  exact ew_zreturn d_XModel_isWord_48 rfl hz.symm hm.symm hb
def F_XModel_isWord_43 (n : Nat) (M : PM) : qO :=
  F_XModel_isWord_48 n (1 : Int32) M
set_option maxHeartbeats 4000000 in
set_option maxRecDepth 100000 in
theorem E_XModel_isWord_43 {g : qG} {X : qX} {Z : qZ} (hn : 0 ≤ zn Z) (hl : 0 ≤ zl Z) {n : Nat} {M : PM} (h : F_XModel_isWord_43 n M = some (zr Z, zf Z)) : EW Y_XModel_isWord g X Z 43 [] [] M := by
  unfold F_XModel_isWord_43 at h
  refine ew_iconst (1) d_XModel_isWord_43 (by decide) ?_
  refine ew_goto 48 d_XModel_isWord_44 (by decide) ?_
  exact E_XModel_isWord_48 hn hl h
def F_XModel_isWord_2 (n : Nat) : Nat → Nat → Int32 → PM → qO
  | 0, _, _, _ => none
  | f + 1, l0, l2, M =>
    gR 0 M l0 3 (fun v1 =>
    lI M v1 l2 (fun v2 =>
    if v2 = (9 : Int32) then
      gR 0 M l0 5 (fun v10 =>
      lI M v10 l2 (fun v11 =>
      (F_XModel_isWord_2 n f) l0 v11 M))
    else
      gR 0 M l0 3 (fun v4 =>
      lI M v4 l2 (fun v5 =>
      if v5 = (3 : Int32) then
        F_XModel_isWord_43 n M
      else
        gR 0 M l0 3 (fun v7 =>
        lI M v7 l2 (fun v8 =>
        if v8 = (5 : Int32) then
          F_XModel_isWord_43 n M
        else
          F_XModel_isWord_48 n (0 : Int32) M))))))
set_option maxHeartbeats 4000000 in
set_option maxRecDepth 100000 in
theorem E_XModel_isWord_2 {g : qG} {X : qX} {Z : qZ} (hn : 0 ≤ zn Z) (hl : 0 ≤ zl Z) {n : Nat} : ∀ (f : Nat) (l0 : Nat) (l2 : Int32) (M : PM), F_XModel_isWord_2 n f l0 l2 M = some (zr Z, zf Z) → EW Y_XModel_isWord g X Z 2 [(0, .ref l0), (2, .int l2)] [] M := by
  intro f
  induction f with
  | zero => intro l0 l2 M h; rw [F_XModel_isWord_2] at h; cases h
  | succ f ih =>
    intro l0 l2 M h
    rw [F_XModel_isWord_2] at h
    refine ew_aload_n 0 d_XModel_isWord_2 rfl rfl ?_
    obtain ⟨v1, av1, bv1, h⟩ := gR_inv h
    refine ew_gR 0 3 d_XModel_isWord_3 fl_XModel_13 av1 bv1 ?_
    refine ew_iload_n 2 d_XModel_isWord_6 rfl rfl ?_
    obtain ⟨v2, av2, bv2, cv2, ev2, h⟩ := lI_inv h
    refine ew_lI d_XModel_isWord_7 av2 bv2 cv2 ev2 ?_
    refine ew_bipush (9) d_XModel_isWord_8 (by decide +kernel) ?_
    refine ew_icmp_ne 23 d_XModel_isWord_10 (by decide) (fun c3 => ?_) (fun c3 => ?_)
    · rw [if_neg c3] at h
      refine ew_aload_n 0 d_XModel_isWord_23 rfl rfl ?_
      obtain ⟨v4, av4, bv4, h⟩ := gR_inv h
      refine ew_gR 0 3 d_XModel_isWord_24 fl_XModel_13 av4 bv4 ?_
      refine ew_iload_n 2 d_XModel_isWord_27 rfl rfl ?_
      obtain ⟨v5, av5, bv5, cv5, ev5, h⟩ := lI_inv h
      refine ew_lI d_XModel_isWord_28 av5 bv5 cv5 ev5 ?_
      refine ew_iconst (3) d_XModel_isWord_29 (by decide) ?_
      refine ew_icmp_eq 43 d_XModel_isWord_30 (by decide) (fun c6 => ?_) (fun c6 => ?_)
      · rw [if_pos c6] at h
        exact ew_pick (L' := []) [] rfl (E_XModel_isWord_43 hn hl h)
      · rw [if_neg c6] at h
        refine ew_aload_n 0 d_XModel_isWord_33 rfl rfl ?_
        obtain ⟨v7, av7, bv7, h⟩ := gR_inv h
        refine ew_gR 0 3 d_XModel_isWord_34 fl_XModel_13 av7 bv7 ?_
        refine ew_iload_n 2 d_XModel_isWord_37 rfl rfl ?_
        obtain ⟨v8, av8, bv8, cv8, ev8, h⟩ := lI_inv h
        refine ew_lI d_XModel_isWord_38 av8 bv8 cv8 ev8 ?_
        refine ew_iconst (5) d_XModel_isWord_39 (by decide) ?_
        refine ew_icmp_ne 47 d_XModel_isWord_40 (by decide) (fun c9 => ?_) (fun c9 => ?_)
        · rw [if_neg c9] at h
          refine ew_iconst (0) d_XModel_isWord_47 (by decide) ?_
          exact ew_pick (L' := []) [] rfl (E_XModel_isWord_48 hn hl h)
        · rw [if_pos c9] at h
          exact ew_pick (L' := []) [] rfl (E_XModel_isWord_43 hn hl h)
    · rw [if_pos c3] at h
      refine ew_aload_n 0 d_XModel_isWord_13 rfl rfl ?_
      obtain ⟨v10, av10, bv10, h⟩ := gR_inv h
      refine ew_gR 0 5 d_XModel_isWord_14 fl_XModel_20 av10 bv10 ?_
      refine ew_iload_n 2 d_XModel_isWord_17 rfl rfl ?_
      obtain ⟨v11, av11, bv11, cv11, ev11, h⟩ := lI_inv h
      refine ew_lI d_XModel_isWord_18 av11 bv11 cv11 ev11 ?_
      refine ew_istore_n (L' := [(0, .ref l0), (2, .int v11)]) 2 [1, 0] d_XModel_isWord_19 rfl (by decide) rfl ?_
      refine ew_goto 2 d_XModel_isWord_20 (by decide) ?_
      exact ih l0 v11 M h
def F_XModel_isWord (n : Nat) (l0 : Nat) (l1 : Int32) (M : PM) : qO :=
  F_XModel_isWord_2 n n l0 l1 M
set_option maxHeartbeats 4000000 in
set_option maxRecDepth 100000 in
theorem E_XModel_isWord {g : qG} {X : qX} {Z : qZ} (hn : 0 ≤ zn Z) (hl : 0 ≤ zl Z) {n : Nat} {l0 : Nat} {l1 : Int32} {M : PM} (h : F_XModel_isWord n l0 l1 M = some (zr Z, zf Z)) : EW Y_XModel_isWord g X Z 0 [(0, .ref l0), (1, .int l1)] [] M := by
  unfold F_XModel_isWord at h
  refine ew_iload_n 1 d_XModel_isWord_0 rfl rfl ?_
  refine ew_istore_n (L' := [(0, .ref l0), (1, .int l1), (2, .int l1)]) 2 [1, 2, 0] d_XModel_isWord_1 rfl (by decide) rfl ?_
  exact ew_pick (L' := [(0, .ref l0), (2, .int l1)]) [0, 2] rfl (E_XModel_isWord_2 hn hl n l0 l1 M h)
theorem T_XModel_isWord {n : Nat} {l0 : Nat} {l1 : Int32} {M Mf : PM} {res : qRs} (h : F_XModel_isWord n l0 l1 M = some (res, Mf)) : CT Y_XModel_isWord 0 0 [.ref l0, .int l1] M res Mf :=
  CT_of (by decide) (Nat.le_of_ble_eq_true rfl) (qHd_ne (by decide)) (fun g X ad0 => E_XModel_isWord (g := g) (X := X) (Z := (ad0, M, res, Mf, 0, 0)) (Nat.le_refl _) (Nat.le_refl _) h)
theorem d_XModel_plainest_0 : decode Y_XModel_plainest.2.1 0 = .ok (.iload_n 1, 1) := by decide +kernel
theorem d_XModel_plainest_1 : decode Y_XModel_plainest.2.1 1 = .ok (.bipush (6), 2) := by decide +kernel
theorem d_XModel_plainest_3 : decode Y_XModel_plainest.2.1 3 = .ok (.if_icmp .ne (10), 3) := by decide +kernel
theorem d_XModel_plainest_6 : decode Y_XModel_plainest.2.1 6 = .ok (.iload_n 2, 1) := by decide +kernel
theorem d_XModel_plainest_7 : decode Y_XModel_plainest.2.1 7 = .ok (.iload_n 3, 1) := by decide +kernel
theorem d_XModel_plainest_8 : decode Y_XModel_plainest.2.1 8 = .ok (.if_icmp .ne (5), 3) := by decide +kernel
theorem d_XModel_plainest_11 : decode Y_XModel_plainest.2.1 11 = .ok (.iconst 1, 1) := by decide +kernel
theorem d_XModel_plainest_12 : decode Y_XModel_plainest.2.1 12 = .ok (.ireturn, 1) := by decide +kernel
theorem d_XModel_plainest_13 : decode Y_XModel_plainest.2.1 13 = .ok (.iload_n 1, 1) := by decide +kernel
theorem d_XModel_plainest_14 : decode Y_XModel_plainest.2.1 14 = .ok (.bipush (7), 2) := by decide +kernel
theorem d_XModel_plainest_16 : decode Y_XModel_plainest.2.1 16 = .ok (.if_icmp .ne (42), 3) := by decide +kernel
theorem d_XModel_plainest_19 : decode Y_XModel_plainest.2.1 19 = .ok (.iload_n 2, 1) := by decide +kernel
theorem d_XModel_plainest_20 : decode Y_XModel_plainest.2.1 20 = .ok (.iconst 1, 1) := by decide +kernel
theorem d_XModel_plainest_21 : decode Y_XModel_plainest.2.1 21 = .ok (.if_icmp .ne (7), 3) := by decide +kernel
theorem d_XModel_plainest_24 : decode Y_XModel_plainest.2.1 24 = .ok (.iconst 0, 1) := by decide +kernel
theorem d_XModel_plainest_25 : decode Y_XModel_plainest.2.1 25 = .ok (.goto (32), 3) := by decide +kernel
theorem d_XModel_plainest_28 : decode Y_XModel_plainest.2.1 28 = .ok (.iload_n 2, 1) := by decide +kernel
theorem d_XModel_plainest_29 : decode Y_XModel_plainest.2.1 29 = .ok (.ifCond .ne (7), 3) := by decide +kernel
theorem d_XModel_plainest_32 : decode Y_XModel_plainest.2.1 32 = .ok (.iconst 1, 1) := by decide +kernel
theorem d_XModel_plainest_33 : decode Y_XModel_plainest.2.1 33 = .ok (.goto (24), 3) := by decide +kernel
theorem d_XModel_plainest_36 : decode Y_XModel_plainest.2.1 36 = .ok (.aload_n 0, 1) := by decide +kernel
theorem d_XModel_plainest_37 : decode Y_XModel_plainest.2.1 37 = .ok (.getfield 13, 3) := by decide +kernel
theorem d_XModel_plainest_40 : decode Y_XModel_plainest.2.1 40 = .ok (.iload_n 2, 1) := by decide +kernel
theorem d_XModel_plainest_41 : decode Y_XModel_plainest.2.1 41 = .ok (.iaload, 1) := by decide +kernel
theorem d_XModel_plainest_42 : decode Y_XModel_plainest.2.1 42 = .ok (.bipush (7), 2) := by decide +kernel
theorem d_XModel_plainest_44 : decode Y_XModel_plainest.2.1 44 = .ok (.if_icmp .ne (12), 3) := by decide +kernel
theorem d_XModel_plainest_47 : decode Y_XModel_plainest.2.1 47 = .ok (.aload_n 0, 1) := by decide +kernel
theorem d_XModel_plainest_48 : decode Y_XModel_plainest.2.1 48 = .ok (.getfield 17, 3) := by decide +kernel
theorem d_XModel_plainest_51 : decode Y_XModel_plainest.2.1 51 = .ok (.iload_n 2, 1) := by decide +kernel
theorem d_XModel_plainest_52 : decode Y_XModel_plainest.2.1 52 = .ok (.iaload, 1) := by decide +kernel
theorem d_XModel_plainest_53 : decode Y_XModel_plainest.2.1 53 = .ok (.goto (4), 3) := by decide +kernel
theorem d_XModel_plainest_56 : decode Y_XModel_plainest.2.1 56 = .ok (.iconst (-1), 1) := by decide +kernel
theorem d_XModel_plainest_57 : decode Y_XModel_plainest.2.1 57 = .ok (.ireturn, 1) := by decide +kernel
theorem d_XModel_plainest_58 : decode Y_XModel_plainest.2.1 58 = .ok (.iload_n 1, 1) := by decide +kernel
theorem d_XModel_plainest_59 : decode Y_XModel_plainest.2.1 59 = .ok (.bipush (8), 2) := by decide +kernel
theorem d_XModel_plainest_61 : decode Y_XModel_plainest.2.1 61 = .ok (.if_icmp .ne (40), 3) := by decide +kernel
theorem d_XModel_plainest_64 : decode Y_XModel_plainest.2.1 64 = .ok (.iload_n 2, 1) := by decide +kernel
theorem d_XModel_plainest_65 : decode Y_XModel_plainest.2.1 65 = .ok (.ifCond .eq (7), 3) := by decide +kernel
theorem d_XModel_plainest_68 : decode Y_XModel_plainest.2.1 68 = .ok (.iload_n 3, 1) := by decide +kernel
theorem d_XModel_plainest_69 : decode Y_XModel_plainest.2.1 69 = .ok (.ifCond .ne (7), 3) := by decide +kernel
theorem d_XModel_plainest_72 : decode Y_XModel_plainest.2.1 72 = .ok (.iconst 0, 1) := by decide +kernel
theorem d_XModel_plainest_73 : decode Y_XModel_plainest.2.1 73 = .ok (.goto (27), 3) := by decide +kernel
theorem d_XModel_plainest_76 : decode Y_XModel_plainest.2.1 76 = .ok (.iload_n 2, 1) := by decide +kernel
theorem d_XModel_plainest_77 : decode Y_XModel_plainest.2.1 77 = .ok (.iconst 1, 1) := by decide +kernel
theorem d_XModel_plainest_78 : decode Y_XModel_plainest.2.1 78 = .ok (.if_icmp .ne (7), 3) := by decide +kernel
theorem d_XModel_plainest_81 : decode Y_XModel_plainest.2.1 81 = .ok (.iload_n 3, 1) := by decide +kernel
theorem d_XModel_plainest_82 : decode Y_XModel_plainest.2.1 82 = .ok (.goto (18), 3) := by decide +kernel
theorem d_XModel_plainest_85 : decode Y_XModel_plainest.2.1 85 = .ok (.iload_n 3, 1) := by decide +kernel
theorem d_XModel_plainest_86 : decode Y_XModel_plainest.2.1 86 = .ok (.iconst 1, 1) := by decide +kernel
theorem d_XModel_plainest_87 : decode Y_XModel_plainest.2.1 87 = .ok (.if_icmp .eq (8), 3) := by decide +kernel
theorem d_XModel_plainest_90 : decode Y_XModel_plainest.2.1 90 = .ok (.iload_n 2, 1) := by decide +kernel
theorem d_XModel_plainest_91 : decode Y_XModel_plainest.2.1 91 = .ok (.iload_n 3, 1) := by decide +kernel
theorem d_XModel_plainest_92 : decode Y_XModel_plainest.2.1 92 = .ok (.if_icmp .ne (7), 3) := by decide +kernel
theorem d_XModel_plainest_95 : decode Y_XModel_plainest.2.1 95 = .ok (.iload_n 2, 1) := by decide +kernel
theorem d_XModel_plainest_96 : decode Y_XModel_plainest.2.1 96 = .ok (.goto (4), 3) := by decide +kernel
theorem d_XModel_plainest_99 : decode Y_XModel_plainest.2.1 99 = .ok (.iconst (-1), 1) := by decide +kernel
theorem d_XModel_plainest_100 : decode Y_XModel_plainest.2.1 100 = .ok (.ireturn, 1) := by decide +kernel
theorem d_XModel_plainest_101 : decode Y_XModel_plainest.2.1 101 = .ok (.iload_n 1, 1) := by decide +kernel
theorem d_XModel_plainest_102 : decode Y_XModel_plainest.2.1 102 = .ok (.bipush (9), 2) := by decide +kernel
theorem d_XModel_plainest_104 : decode Y_XModel_plainest.2.1 104 = .ok (.if_icmp .ne (33), 3) := by decide +kernel
theorem d_XModel_plainest_107 : decode Y_XModel_plainest.2.1 107 = .ok (.iload_n 2, 1) := by decide +kernel
theorem d_XModel_plainest_108 : decode Y_XModel_plainest.2.1 108 = .ok (.iconst 1, 1) := by decide +kernel
theorem d_XModel_plainest_109 : decode Y_XModel_plainest.2.1 109 = .ok (.if_icmp .ne (7), 3) := by decide +kernel
theorem d_XModel_plainest_112 : decode Y_XModel_plainest.2.1 112 = .ok (.iload_n 3, 1) := by decide +kernel
theorem d_XModel_plainest_113 : decode Y_XModel_plainest.2.1 113 = .ok (.goto (23), 3) := by decide +kernel
theorem d_XModel_plainest_116 : decode Y_XModel_plainest.2.1 116 = .ok (.iload_n 2, 1) := by decide +kernel
theorem d_XModel_plainest_117 : decode Y_XModel_plainest.2.1 117 = .ok (.ifCond .ne (8), 3) := by decide +kernel
theorem d_XModel_plainest_120 : decode Y_XModel_plainest.2.1 120 = .ok (.iload 4, 2) := by decide +kernel
theorem d_XModel_plainest_122 : decode Y_XModel_plainest.2.1 122 = .ok (.goto (14), 3) := by decide +kernel
theorem d_XModel_plainest_125 : decode Y_XModel_plainest.2.1 125 = .ok (.iload_n 3, 1) := by decide +kernel
theorem d_XModel_plainest_126 : decode Y_XModel_plainest.2.1 126 = .ok (.iload 4, 2) := by decide +kernel
theorem d_XModel_plainest_128 : decode Y_XModel_plainest.2.1 128 = .ok (.if_icmp .ne (7), 3) := by decide +kernel
theorem d_XModel_plainest_131 : decode Y_XModel_plainest.2.1 131 = .ok (.iload_n 3, 1) := by decide +kernel
theorem d_XModel_plainest_132 : decode Y_XModel_plainest.2.1 132 = .ok (.goto (4), 3) := by decide +kernel
theorem d_XModel_plainest_135 : decode Y_XModel_plainest.2.1 135 = .ok (.iconst (-1), 1) := by decide +kernel
theorem d_XModel_plainest_136 : decode Y_XModel_plainest.2.1 136 = .ok (.ireturn, 1) := by decide +kernel
theorem d_XModel_plainest_137 : decode Y_XModel_plainest.2.1 137 = .ok (.iconst (-1), 1) := by decide +kernel
theorem d_XModel_plainest_138 : decode Y_XModel_plainest.2.1 138 = .ok (.ireturn, 1) := by decide +kernel
def F_XModel_plainest_57 (n : Nat) (s0 : Int32) (M : PM) : qO :=
  some (.inl (some (.int s0)), M)
set_option maxHeartbeats 4000000 in
set_option maxRecDepth 100000 in
theorem E_XModel_plainest_57 {g : qG} {X : qX} {Z : qZ} (hn : 0 ≤ zn Z) (hl : 0 ≤ zl Z) {n : Nat} {s0 : Int32} {M : PM} (h : F_XModel_plainest_57 n s0 M = some (zr Z, zf Z)) : EW Y_XModel_plainest g X Z 57 [] [.int s0] M := by
  unfold F_XModel_plainest_57 at h
  obtain ⟨hz, hm⟩ := Prod.mk.inj (Option.some.inj h)
  exact ew_ireturn d_XModel_plainest_57 rfl hz.symm hm.symm
def F_XModel_plainest_100 (n : Nat) (s0 : Int32) (M : PM) : qO :=
  some (.inl (some (.int s0)), M)
set_option maxHeartbeats 4000000 in
set_option maxRecDepth 100000 in
theorem E_XModel_plainest_100 {g : qG} {X : qX} {Z : qZ} (hn : 0 ≤ zn Z) (hl : 0 ≤ zl Z) {n : Nat} {s0 : Int32} {M : PM} (h : F_XModel_plainest_100 n s0 M = some (zr Z, zf Z)) : EW Y_XModel_plainest g X Z 100 [] [.int s0] M := by
  unfold F_XModel_plainest_100 at h
  obtain ⟨hz, hm⟩ := Prod.mk.inj (Option.some.inj h)
  exact ew_ireturn d_XModel_plainest_100 rfl hz.symm hm.symm
def F_XModel_plainest_72 (n : Nat) (M : PM) : qO :=
  F_XModel_plainest_100 n (0 : Int32) M
set_option maxHeartbeats 4000000 in
set_option maxRecDepth 100000 in
theorem E_XModel_plainest_72 {g : qG} {X : qX} {Z : qZ} (hn : 0 ≤ zn Z) (hl : 0 ≤ zl Z) {n : Nat} {M : PM} (h : F_XModel_plainest_72 n M = some (zr Z, zf Z)) : EW Y_XModel_plainest g X Z 72 [] [] M := by
  unfold F_XModel_plainest_72 at h
  refine ew_iconst (0) d_XModel_plainest_72 (by decide) ?_
  refine ew_goto 100 d_XModel_plainest_73 (by decide) ?_
  exact E_XModel_plainest_100 hn hl h
def F_XModel_plainest_95 (n : Nat) (l2 : Int32) (M : PM) : qO :=
  F_XModel_plainest_100 n l2 M
set_option maxHeartbeats 4000000 in
set_option maxRecDepth 100000 in
theorem E_XModel_plainest_95 {g : qG} {X : qX} {Z : qZ} (hn : 0 ≤ zn Z) (hl : 0 ≤ zl Z) {n : Nat} {l2 : Int32} {M : PM} (h : F_XModel_plainest_95 n l2 M = some (zr Z, zf Z)) : EW Y_XModel_plainest g X Z 95 [(2, .int l2)] [] M := by
  unfold F_XModel_plainest_95 at h
  refine ew_iload_n 2 d_XModel_plainest_95 rfl rfl ?_
  refine ew_goto 100 d_XModel_plainest_96 (by decide) ?_
  exact ew_pick (L' := []) [] rfl (E_XModel_plainest_100 hn hl h)
def F_XModel_plainest_136 (n : Nat) (s0 : Int32) (M : PM) : qO :=
  some (.inl (some (.int s0)), M)
set_option maxHeartbeats 4000000 in
set_option maxRecDepth 100000 in
theorem E_XModel_plainest_136 {g : qG} {X : qX} {Z : qZ} (hn : 0 ≤ zn Z) (hl : 0 ≤ zl Z) {n : Nat} {s0 : Int32} {M : PM} (h : F_XModel_plainest_136 n s0 M = some (zr Z, zf Z)) : EW Y_XModel_plainest g X Z 136 [] [.int s0] M := by
  unfold F_XModel_plainest_136 at h
  obtain ⟨hz, hm⟩ := Prod.mk.inj (Option.some.inj h)
  exact ew_ireturn d_XModel_plainest_136 rfl hz.symm hm.symm
def F_XModel_plainest_13 (n : Nat) (l0 : Nat) (l1 : Int32) (l2 : Int32) (l3 : Int32) (l4 : Int32) (M : PM) : qO :=
  if l1 = (7 : Int32) then
    if l2 = (1 : Int32) then
      F_XModel_plainest_57 n (0 : Int32) M
    else
      if l2 = (0 : Int32) then
        F_XModel_plainest_57 n (1 : Int32) M
      else
        gR 0 M l0 3 (fun v14 =>
        lI M v14 l2 (fun v15 =>
        if v15 = (7 : Int32) then
          gR 0 M l0 4 (fun v17 =>
          lI M v17 l2 (fun v18 =>
          F_XModel_plainest_57 n v18 M))
        else
          F_XModel_plainest_57 n (-1 : Int32) M))
  else
    if l1 = (8 : Int32) then
      if l2 = (0 : Int32) then
        F_XModel_plainest_72 n M
      else
        if l3 = (0 : Int32) then
          F_XModel_plainest_72 n M
        else
          if l2 = (1 : Int32) then
            F_XModel_plainest_100 n l3 M
          else
            if l3 = (1 : Int32) then
              F_XModel_plainest_95 n l2 M
            else
              if l2 = l3 then
                F_XModel_plainest_95 n l2 M
              else
                F_XModel_plainest_100 n (-1 : Int32) M
    else
      if l1 = (9 : Int32) then
        if l2 = (1 : Int32) then
          F_XModel_plainest_136 n l3 M
        else
          if l2 = (0 : Int32) then
            F_XModel_plainest_136 n l4 M
          else
            if l3 = l4 then
              F_XModel_plainest_136 n l3 M
            else
              F_XModel_plainest_136 n (-1 : Int32) M
      else
        some (.inl (some (.int (-1 : Int32))), M)
set_option maxHeartbeats 4000000 in
set_option maxRecDepth 100000 in
theorem E_XModel_plainest_13 {g : qG} {X : qX} {Z : qZ} (hn : 0 ≤ zn Z) (hl : 0 ≤ zl Z) {n : Nat} {l0 : Nat} {l1 : Int32} {l2 : Int32} {l3 : Int32} {l4 : Int32} {M : PM} (h : F_XModel_plainest_13 n l0 l1 l2 l3 l4 M = some (zr Z, zf Z)) : EW Y_XModel_plainest g X Z 13 [(0, .ref l0), (1, .int l1), (2, .int l2), (3, .int l3), (4, .int l4)] [] M := by
  unfold F_XModel_plainest_13 at h
  refine ew_iload_n 1 d_XModel_plainest_13 rfl rfl ?_
  refine ew_bipush (7) d_XModel_plainest_14 (by decide +kernel) ?_
  refine ew_icmp_ne 58 d_XModel_plainest_16 (by decide) (fun c1 => ?_) (fun c1 => ?_)
  · rw [if_neg c1] at h
    refine ew_iload_n 1 d_XModel_plainest_58 rfl rfl ?_
    refine ew_bipush (8) d_XModel_plainest_59 (by decide +kernel) ?_
    refine ew_icmp_ne 101 d_XModel_plainest_61 (by decide) (fun c2 => ?_) (fun c2 => ?_)
    · rw [if_neg c2] at h
      refine ew_iload_n 1 d_XModel_plainest_101 rfl rfl ?_
      refine ew_bipush (9) d_XModel_plainest_102 (by decide +kernel) ?_
      refine ew_icmp_ne 137 d_XModel_plainest_104 (by decide) (fun c3 => ?_) (fun c3 => ?_)
      · rw [if_neg c3] at h
        refine ew_iconst (-1) d_XModel_plainest_137 (by decide) ?_
        obtain ⟨hz, hm⟩ := Prod.mk.inj (Option.some.inj h)
        exact ew_ireturn d_XModel_plainest_138 rfl hz.symm hm.symm
      · rw [if_pos c3] at h
        refine ew_iload_n 2 d_XModel_plainest_107 rfl rfl ?_
        refine ew_iconst (1) d_XModel_plainest_108 (by decide) ?_
        refine ew_icmp_ne 116 d_XModel_plainest_109 (by decide) (fun c4 => ?_) (fun c4 => ?_)
        · rw [if_neg c4] at h
          refine ew_iload_n 2 d_XModel_plainest_116 rfl rfl ?_
          refine ew_if_ne 125 d_XModel_plainest_117 (by decide) (fun c5 => ?_) (fun c5 => ?_)
          · rw [if_neg c5] at h
            refine ew_iload_n 3 d_XModel_plainest_125 rfl rfl ?_
            refine ew_iload d_XModel_plainest_126 rfl ?_
            refine ew_icmp_ne 135 d_XModel_plainest_128 (by decide) (fun c6 => ?_) (fun c6 => ?_)
            · rw [if_neg c6] at h
              refine ew_iconst (-1) d_XModel_plainest_135 (by decide) ?_
              exact ew_pick (L' := []) [] rfl (E_XModel_plainest_136 hn hl h)
            · rw [if_pos c6] at h
              refine ew_iload_n 3 d_XModel_plainest_131 rfl rfl ?_
              refine ew_goto 136 d_XModel_plainest_132 (by decide) ?_
              exact ew_pick (L' := []) [] rfl (E_XModel_plainest_136 hn hl h)
          · rw [if_pos c5] at h
            refine ew_iload d_XModel_plainest_120 rfl ?_
            refine ew_goto 136 d_XModel_plainest_122 (by decide) ?_
            exact ew_pick (L' := []) [] rfl (E_XModel_plainest_136 hn hl h)
        · rw [if_pos c4] at h
          refine ew_iload_n 3 d_XModel_plainest_112 rfl rfl ?_
          refine ew_goto 136 d_XModel_plainest_113 (by decide) ?_
          exact ew_pick (L' := []) [] rfl (E_XModel_plainest_136 hn hl h)
    · rw [if_pos c2] at h
      refine ew_iload_n 2 d_XModel_plainest_64 rfl rfl ?_
      refine ew_if_eq 72 d_XModel_plainest_65 (by decide) (fun c7 => ?_) (fun c7 => ?_)
      · rw [if_pos c7] at h
        exact ew_pick (L' := []) [] rfl (E_XModel_plainest_72 hn hl h)
      · rw [if_neg c7] at h
        refine ew_iload_n 3 d_XModel_plainest_68 rfl rfl ?_
        refine ew_if_ne 76 d_XModel_plainest_69 (by decide) (fun c8 => ?_) (fun c8 => ?_)
        · rw [if_neg c8] at h
          refine ew_iload_n 2 d_XModel_plainest_76 rfl rfl ?_
          refine ew_iconst (1) d_XModel_plainest_77 (by decide) ?_
          refine ew_icmp_ne 85 d_XModel_plainest_78 (by decide) (fun c9 => ?_) (fun c9 => ?_)
          · rw [if_neg c9] at h
            refine ew_iload_n 3 d_XModel_plainest_85 rfl rfl ?_
            refine ew_iconst (1) d_XModel_plainest_86 (by decide) ?_
            refine ew_icmp_eq 95 d_XModel_plainest_87 (by decide) (fun c10 => ?_) (fun c10 => ?_)
            · rw [if_pos c10] at h
              exact ew_pick (L' := [(2, .int l2)]) [2] rfl (E_XModel_plainest_95 hn hl h)
            · rw [if_neg c10] at h
              refine ew_iload_n 2 d_XModel_plainest_90 rfl rfl ?_
              refine ew_iload_n 3 d_XModel_plainest_91 rfl rfl ?_
              refine ew_icmp_ne 99 d_XModel_plainest_92 (by decide) (fun c11 => ?_) (fun c11 => ?_)
              · rw [if_neg c11] at h
                refine ew_iconst (-1) d_XModel_plainest_99 (by decide) ?_
                exact ew_pick (L' := []) [] rfl (E_XModel_plainest_100 hn hl h)
              · rw [if_pos c11] at h
                exact ew_pick (L' := [(2, .int l2)]) [2] rfl (E_XModel_plainest_95 hn hl h)
          · rw [if_pos c9] at h
            refine ew_iload_n 3 d_XModel_plainest_81 rfl rfl ?_
            refine ew_goto 100 d_XModel_plainest_82 (by decide) ?_
            exact ew_pick (L' := []) [] rfl (E_XModel_plainest_100 hn hl h)
        · rw [if_pos c8] at h
          exact ew_pick (L' := []) [] rfl (E_XModel_plainest_72 hn hl h)
  · rw [if_pos c1] at h
    refine ew_iload_n 2 d_XModel_plainest_19 rfl rfl ?_
    refine ew_iconst (1) d_XModel_plainest_20 (by decide) ?_
    refine ew_icmp_ne 28 d_XModel_plainest_21 (by decide) (fun c12 => ?_) (fun c12 => ?_)
    · rw [if_neg c12] at h
      refine ew_iload_n 2 d_XModel_plainest_28 rfl rfl ?_
      refine ew_if_ne 36 d_XModel_plainest_29 (by decide) (fun c13 => ?_) (fun c13 => ?_)
      · rw [if_neg c13] at h
        refine ew_aload_n 0 d_XModel_plainest_36 rfl rfl ?_
        obtain ⟨v14, av14, bv14, h⟩ := gR_inv h
        refine ew_gR 0 3 d_XModel_plainest_37 fl_XModel_13 av14 bv14 ?_
        refine ew_iload_n 2 d_XModel_plainest_40 rfl rfl ?_
        obtain ⟨v15, av15, bv15, cv15, ev15, h⟩ := lI_inv h
        refine ew_lI d_XModel_plainest_41 av15 bv15 cv15 ev15 ?_
        refine ew_bipush (7) d_XModel_plainest_42 (by decide +kernel) ?_
        refine ew_icmp_ne 56 d_XModel_plainest_44 (by decide) (fun c16 => ?_) (fun c16 => ?_)
        · rw [if_neg c16] at h
          refine ew_iconst (-1) d_XModel_plainest_56 (by decide) ?_
          exact ew_pick (L' := []) [] rfl (E_XModel_plainest_57 hn hl h)
        · rw [if_pos c16] at h
          refine ew_aload_n 0 d_XModel_plainest_47 rfl rfl ?_
          obtain ⟨v17, av17, bv17, h⟩ := gR_inv h
          refine ew_gR 0 4 d_XModel_plainest_48 fl_XModel_17 av17 bv17 ?_
          refine ew_iload_n 2 d_XModel_plainest_51 rfl rfl ?_
          obtain ⟨v18, av18, bv18, cv18, ev18, h⟩ := lI_inv h
          refine ew_lI d_XModel_plainest_52 av18 bv18 cv18 ev18 ?_
          refine ew_goto 57 d_XModel_plainest_53 (by decide) ?_
          exact ew_pick (L' := []) [] rfl (E_XModel_plainest_57 hn hl h)
      · rw [if_pos c13] at h
        refine ew_iconst (1) d_XModel_plainest_32 (by decide) ?_
        refine ew_goto 57 d_XModel_plainest_33 (by decide) ?_
        exact ew_pick (L' := []) [] rfl (E_XModel_plainest_57 hn hl h)
    · rw [if_pos c12] at h
      refine ew_iconst (0) d_XModel_plainest_24 (by decide) ?_
      refine ew_goto 57 d_XModel_plainest_25 (by decide) ?_
      exact ew_pick (L' := []) [] rfl (E_XModel_plainest_57 hn hl h)
def F_XModel_plainest (n : Nat) (l0 : Nat) (l1 : Int32) (l2 : Int32) (l3 : Int32) (l4 : Int32) (M : PM) : qO :=
  if l1 = (6 : Int32) then
    if l2 = l3 then
      some (.inl (some (.int (1 : Int32))), M)
    else
      F_XModel_plainest_13 n l0 l1 l2 l3 l4 M
  else
    F_XModel_plainest_13 n l0 l1 l2 l3 l4 M
set_option maxHeartbeats 4000000 in
set_option maxRecDepth 100000 in
theorem E_XModel_plainest {g : qG} {X : qX} {Z : qZ} (hn : 0 ≤ zn Z) (hl : 0 ≤ zl Z) {n : Nat} {l0 : Nat} {l1 : Int32} {l2 : Int32} {l3 : Int32} {l4 : Int32} {M : PM} (h : F_XModel_plainest n l0 l1 l2 l3 l4 M = some (zr Z, zf Z)) : EW Y_XModel_plainest g X Z 0 [(0, .ref l0), (1, .int l1), (2, .int l2), (3, .int l3), (4, .int l4)] [] M := by
  unfold F_XModel_plainest at h
  refine ew_iload_n 1 d_XModel_plainest_0 rfl rfl ?_
  refine ew_bipush (6) d_XModel_plainest_1 (by decide +kernel) ?_
  refine ew_icmp_ne 13 d_XModel_plainest_3 (by decide) (fun c1 => ?_) (fun c1 => ?_)
  · rw [if_neg c1] at h
    exact E_XModel_plainest_13 hn hl h
  · rw [if_pos c1] at h
    refine ew_iload_n 2 d_XModel_plainest_6 rfl rfl ?_
    refine ew_iload_n 3 d_XModel_plainest_7 rfl rfl ?_
    refine ew_icmp_ne 13 d_XModel_plainest_8 (by decide) (fun c2 => ?_) (fun c2 => ?_)
    · rw [if_neg c2] at h
      exact E_XModel_plainest_13 hn hl h
    · rw [if_pos c2] at h
      refine ew_iconst (1) d_XModel_plainest_11 (by decide) ?_
      obtain ⟨hz, hm⟩ := Prod.mk.inj (Option.some.inj h)
      exact ew_ireturn d_XModel_plainest_12 rfl hz.symm hm.symm
theorem T_XModel_plainest {n : Nat} {l0 : Nat} {l1 : Int32} {l2 : Int32} {l3 : Int32} {l4 : Int32} {M Mf : PM} {res : qRs} (h : F_XModel_plainest n l0 l1 l2 l3 l4 M = some (res, Mf)) : CT Y_XModel_plainest 0 0 [.ref l0, .int l1, .int l2, .int l3, .int l4] M res Mf :=
  CT_of (by decide) (Nat.le_of_ble_eq_true rfl) (qHd_ne (by decide)) (fun g X ad0 => E_XModel_plainest (g := g) (X := X) (Z := (ad0, M, res, Mf, 0, 0)) (Nat.le_refl _) (Nat.le_refl _) h)
theorem d_XModel_find_0 : decode Y_XModel_find.2.1 0 = .ok (.aload_n 0, 1) := by decide +kernel
theorem d_XModel_find_1 : decode Y_XModel_find.2.1 1 = .ok (.getfield 26, 3) := by decide +kernel
theorem d_XModel_find_4 : decode Y_XModel_find.2.1 4 = .ok (.iload_n 1, 1) := by decide +kernel
theorem d_XModel_find_5 : decode Y_XModel_find.2.1 5 = .ok (.iload_n 2, 1) := by decide +kernel
theorem d_XModel_find_6 : decode Y_XModel_find.2.1 6 = .ok (.iload_n 3, 1) := by decide +kernel
theorem d_XModel_find_7 : decode Y_XModel_find.2.1 7 = .ok (.iload 4, 2) := by decide +kernel
theorem d_XModel_find_9 : decode Y_XModel_find.2.1 9 = .ok (.invokestatic 91, 3) := by decide +kernel
theorem d_XModel_find_12 : decode Y_XModel_find.2.1 12 = .ok (.iaload, 1) := by decide +kernel
theorem d_XModel_find_13 : decode Y_XModel_find.2.1 13 = .ok (.istore 5, 2) := by decide +kernel
theorem d_XModel_find_15 : decode Y_XModel_find.2.1 15 = .ok (.iload 5, 2) := by decide +kernel
theorem d_XModel_find_17 : decode Y_XModel_find.2.1 17 = .ok (.ifCond .lt (60), 3) := by decide +kernel
theorem d_XModel_find_20 : decode Y_XModel_find.2.1 20 = .ok (.aload_n 0, 1) := by decide +kernel
theorem d_XModel_find_21 : decode Y_XModel_find.2.1 21 = .ok (.getfield 13, 3) := by decide +kernel
theorem d_XModel_find_24 : decode Y_XModel_find.2.1 24 = .ok (.iload 5, 2) := by decide +kernel
theorem d_XModel_find_26 : decode Y_XModel_find.2.1 26 = .ok (.iaload, 1) := by decide +kernel
theorem d_XModel_find_27 : decode Y_XModel_find.2.1 27 = .ok (.iload_n 1, 1) := by decide +kernel
theorem d_XModel_find_28 : decode Y_XModel_find.2.1 28 = .ok (.if_icmp .ne (37), 3) := by decide +kernel
theorem d_XModel_find_31 : decode Y_XModel_find.2.1 31 = .ok (.aload_n 0, 1) := by decide +kernel
theorem d_XModel_find_32 : decode Y_XModel_find.2.1 32 = .ok (.getfield 17, 3) := by decide +kernel
theorem d_XModel_find_35 : decode Y_XModel_find.2.1 35 = .ok (.iload 5, 2) := by decide +kernel
theorem d_XModel_find_37 : decode Y_XModel_find.2.1 37 = .ok (.iaload, 1) := by decide +kernel
theorem d_XModel_find_38 : decode Y_XModel_find.2.1 38 = .ok (.iload_n 2, 1) := by decide +kernel
theorem d_XModel_find_39 : decode Y_XModel_find.2.1 39 = .ok (.if_icmp .ne (26), 3) := by decide +kernel
theorem d_XModel_find_42 : decode Y_XModel_find.2.1 42 = .ok (.aload_n 0, 1) := by decide +kernel
theorem d_XModel_find_43 : decode Y_XModel_find.2.1 43 = .ok (.getfield 20, 3) := by decide +kernel
theorem d_XModel_find_46 : decode Y_XModel_find.2.1 46 = .ok (.iload 5, 2) := by decide +kernel
theorem d_XModel_find_48 : decode Y_XModel_find.2.1 48 = .ok (.iaload, 1) := by decide +kernel
theorem d_XModel_find_49 : decode Y_XModel_find.2.1 49 = .ok (.iload_n 3, 1) := by decide +kernel
theorem d_XModel_find_50 : decode Y_XModel_find.2.1 50 = .ok (.if_icmp .ne (15), 3) := by decide +kernel
theorem d_XModel_find_53 : decode Y_XModel_find.2.1 53 = .ok (.aload_n 0, 1) := by decide +kernel
theorem d_XModel_find_54 : decode Y_XModel_find.2.1 54 = .ok (.getfield 23, 3) := by decide +kernel
theorem d_XModel_find_57 : decode Y_XModel_find.2.1 57 = .ok (.iload 5, 2) := by decide +kernel
theorem d_XModel_find_59 : decode Y_XModel_find.2.1 59 = .ok (.iaload, 1) := by decide +kernel
theorem d_XModel_find_60 : decode Y_XModel_find.2.1 60 = .ok (.iload 4, 2) := by decide +kernel
theorem d_XModel_find_62 : decode Y_XModel_find.2.1 62 = .ok (.if_icmp .eq (15), 3) := by decide +kernel
theorem d_XModel_find_65 : decode Y_XModel_find.2.1 65 = .ok (.aload_n 0, 1) := by decide +kernel
theorem d_XModel_find_66 : decode Y_XModel_find.2.1 66 = .ok (.getfield 29, 3) := by decide +kernel
theorem d_XModel_find_69 : decode Y_XModel_find.2.1 69 = .ok (.iload 5, 2) := by decide +kernel
theorem d_XModel_find_71 : decode Y_XModel_find.2.1 71 = .ok (.iaload, 1) := by decide +kernel
theorem d_XModel_find_72 : decode Y_XModel_find.2.1 72 = .ok (.istore 5, 2) := by decide +kernel
theorem d_XModel_find_74 : decode Y_XModel_find.2.1 74 = .ok (.goto (-59), 3) := by decide +kernel
theorem d_XModel_find_77 : decode Y_XModel_find.2.1 77 = .ok (.iload 5, 2) := by decide +kernel
theorem d_XModel_find_79 : decode Y_XModel_find.2.1 79 = .ok (.ireturn, 1) := by decide +kernel
def F_XModel_find_77 (n : Nat) (l5 : Int32) (M : PM) : qO :=
  some (.inl (some (.int l5)), M)
set_option maxHeartbeats 4000000 in
set_option maxRecDepth 100000 in
theorem E_XModel_find_77 {g : qG} {X : qX} {Z : qZ} (hn : 1 ≤ zn Z) (hl : 23 ≤ zl Z) {n : Nat} {l5 : Int32} {M : PM} (h : F_XModel_find_77 n l5 M = some (zr Z, zf Z)) : EW Y_XModel_find g X Z 77 [(5, .int l5)] [] M := by
  unfold F_XModel_find_77 at h
  refine ew_iload d_XModel_find_77 rfl ?_
  obtain ⟨hz, hm⟩ := Prod.mk.inj (Option.some.inj h)
  exact ew_ireturn d_XModel_find_79 rfl hz.symm hm.symm
def F_XModel_find_65 (n : Nat) (rec15 : Nat → Int32 → Int32 → Int32 → Int32 → Int32 → PM → qO) (l0 : Nat) (l1 : Int32) (l2 : Int32) (l3 : Int32) (l4 : Int32) (l5 : Int32) (M : PM) : qO :=
  gR 0 M l0 8 (fun v1 =>
  lI M v1 l5 (fun v2 =>
  rec15 l0 l1 l2 l3 l4 v2 M))
set_option maxHeartbeats 4000000 in
set_option maxRecDepth 100000 in
theorem E_XModel_find_65 {g : qG} {X : qX} {Z : qZ} (hn : 1 ≤ zn Z) (hl : 23 ≤ zl Z) {n : Nat} {rec15 : Nat → Int32 → Int32 → Int32 → Int32 → Int32 → PM → qO} (hrec15 : ∀ (l0 : Nat) (l1 : Int32) (l2 : Int32) (l3 : Int32) (l4 : Int32) (l5 : Int32) (M : PM), rec15 l0 l1 l2 l3 l4 l5 M = some (zr Z, zf Z) → EW Y_XModel_find g X Z 15 [(0, .ref l0), (1, .int l1), (2, .int l2), (3, .int l3), (4, .int l4), (5, .int l5)] [] M) {l0 : Nat} {l1 : Int32} {l2 : Int32} {l3 : Int32} {l4 : Int32} {l5 : Int32} {M : PM} (h : F_XModel_find_65 n rec15 l0 l1 l2 l3 l4 l5 M = some (zr Z, zf Z)) : EW Y_XModel_find g X Z 65 [(0, .ref l0), (1, .int l1), (2, .int l2), (3, .int l3), (4, .int l4), (5, .int l5)] [] M := by
  unfold F_XModel_find_65 at h
  refine ew_aload_n 0 d_XModel_find_65 rfl rfl ?_
  obtain ⟨v1, av1, bv1, h⟩ := gR_inv h
  refine ew_gR 0 8 d_XModel_find_66 fl_XModel_29 av1 bv1 ?_
  refine ew_iload d_XModel_find_69 rfl ?_
  obtain ⟨v2, av2, bv2, cv2, ev2, h⟩ := lI_inv h
  refine ew_lI d_XModel_find_71 av2 bv2 cv2 ev2 ?_
  refine ew_istore (L' := [(0, .ref l0), (1, .int l1), (2, .int l2), (3, .int l3), (4, .int l4), (5, .int v2)]) [1, 2, 3, 4, 5, 0] d_XModel_find_72 (by decide) rfl ?_
  refine ew_goto 15 d_XModel_find_74 (by decide) ?_
  exact hrec15 l0 l1 l2 l3 l4 v2 M h
def F_XModel_find_15 (n : Nat) : Nat → Nat → Int32 → Int32 → Int32 → Int32 → Int32 → PM → qO
  | 0, _, _, _, _, _, _, _ => none
  | f + 1, l0, l1, l2, l3, l4, l5, M =>
    if l5 < (0 : Int32) then
      F_XModel_find_77 n l5 M
    else
      gR 0 M l0 3 (fun v2 =>
      lI M v2 l5 (fun v3 =>
      if v3 = l1 then
        gR 0 M l0 4 (fun v5 =>
        lI M v5 l5 (fun v6 =>
        if v6 = l2 then
          gR 0 M l0 5 (fun v8 =>
          lI M v8 l5 (fun v9 =>
          if v9 = l3 then
            gR 0 M l0 6 (fun v11 =>
            lI M v11 l5 (fun v12 =>
            if v12 = l4 then
              F_XModel_find_77 n l5 M
            else
              F_XModel_find_65 n (F_XModel_find_15 n f) l0 l1 l2 l3 l4 l5 M))
          else
            F_XModel_find_65 n (F_XModel_find_15 n f) l0 l1 l2 l3 l4 l5 M))
        else
          F_XModel_find_65 n (F_XModel_find_15 n f) l0 l1 l2 l3 l4 l5 M))
      else
        F_XModel_find_65 n (F_XModel_find_15 n f) l0 l1 l2 l3 l4 l5 M))
set_option maxHeartbeats 4000000 in
set_option maxRecDepth 100000 in
theorem E_XModel_find_15 {g : qG} {X : qX} {Z : qZ} (hn : 1 ≤ zn Z) (hl : 23 ≤ zl Z) {n : Nat} : ∀ (f : Nat) (l0 : Nat) (l1 : Int32) (l2 : Int32) (l3 : Int32) (l4 : Int32) (l5 : Int32) (M : PM), F_XModel_find_15 n f l0 l1 l2 l3 l4 l5 M = some (zr Z, zf Z) → EW Y_XModel_find g X Z 15 [(0, .ref l0), (1, .int l1), (2, .int l2), (3, .int l3), (4, .int l4), (5, .int l5)] [] M := by
  intro f
  induction f with
  | zero => intro l0 l1 l2 l3 l4 l5 M h; rw [F_XModel_find_15] at h; cases h
  | succ f ih =>
    intro l0 l1 l2 l3 l4 l5 M h
    rw [F_XModel_find_15] at h
    refine ew_iload d_XModel_find_15 rfl ?_
    refine ew_if_lt 77 d_XModel_find_17 (by decide) (fun c1 => ?_) (fun c1 => ?_)
    · rw [if_pos c1] at h
      exact ew_pick (L' := [(5, .int l5)]) [5] rfl (E_XModel_find_77 hn hl h)
    · rw [if_neg c1] at h
      refine ew_aload_n 0 d_XModel_find_20 rfl rfl ?_
      obtain ⟨v2, av2, bv2, h⟩ := gR_inv h
      refine ew_gR 0 3 d_XModel_find_21 fl_XModel_13 av2 bv2 ?_
      refine ew_iload d_XModel_find_24 rfl ?_
      obtain ⟨v3, av3, bv3, cv3, ev3, h⟩ := lI_inv h
      refine ew_lI d_XModel_find_26 av3 bv3 cv3 ev3 ?_
      refine ew_iload_n 1 d_XModel_find_27 rfl rfl ?_
      refine ew_icmp_ne 65 d_XModel_find_28 (by decide) (fun c4 => ?_) (fun c4 => ?_)
      · rw [if_neg c4] at h
        exact E_XModel_find_65 hn hl ih h
      · rw [if_pos c4] at h
        refine ew_aload_n 0 d_XModel_find_31 rfl rfl ?_
        obtain ⟨v5, av5, bv5, h⟩ := gR_inv h
        refine ew_gR 0 4 d_XModel_find_32 fl_XModel_17 av5 bv5 ?_
        refine ew_iload d_XModel_find_35 rfl ?_
        obtain ⟨v6, av6, bv6, cv6, ev6, h⟩ := lI_inv h
        refine ew_lI d_XModel_find_37 av6 bv6 cv6 ev6 ?_
        refine ew_iload_n 2 d_XModel_find_38 rfl rfl ?_
        refine ew_icmp_ne 65 d_XModel_find_39 (by decide) (fun c7 => ?_) (fun c7 => ?_)
        · rw [if_neg c7] at h
          exact E_XModel_find_65 hn hl ih h
        · rw [if_pos c7] at h
          refine ew_aload_n 0 d_XModel_find_42 rfl rfl ?_
          obtain ⟨v8, av8, bv8, h⟩ := gR_inv h
          refine ew_gR 0 5 d_XModel_find_43 fl_XModel_20 av8 bv8 ?_
          refine ew_iload d_XModel_find_46 rfl ?_
          obtain ⟨v9, av9, bv9, cv9, ev9, h⟩ := lI_inv h
          refine ew_lI d_XModel_find_48 av9 bv9 cv9 ev9 ?_
          refine ew_iload_n 3 d_XModel_find_49 rfl rfl ?_
          refine ew_icmp_ne 65 d_XModel_find_50 (by decide) (fun c10 => ?_) (fun c10 => ?_)
          · rw [if_neg c10] at h
            exact E_XModel_find_65 hn hl ih h
          · rw [if_pos c10] at h
            refine ew_aload_n 0 d_XModel_find_53 rfl rfl ?_
            obtain ⟨v11, av11, bv11, h⟩ := gR_inv h
            refine ew_gR 0 6 d_XModel_find_54 fl_XModel_23 av11 bv11 ?_
            refine ew_iload d_XModel_find_57 rfl ?_
            obtain ⟨v12, av12, bv12, cv12, ev12, h⟩ := lI_inv h
            refine ew_lI d_XModel_find_59 av12 bv12 cv12 ev12 ?_
            refine ew_iload d_XModel_find_60 rfl ?_
            refine ew_icmp_eq 77 d_XModel_find_62 (by decide) (fun c13 => ?_) (fun c13 => ?_)
            · rw [if_pos c13] at h
              exact ew_pick (L' := [(5, .int l5)]) [5] rfl (E_XModel_find_77 hn hl h)
            · rw [if_neg c13] at h
              exact E_XModel_find_65 hn hl ih h
def F_XModel_find (n : Nat) (l0 : Nat) (l1 : Int32) (l2 : Int32) (l3 : Int32) (l4 : Int32) (M : PM) : qO :=
  gR 0 M l0 7 (fun v1 =>
  cI (F_XModel_chainOf n l1 l2 l3 l4 M) (fun v3 M2 =>
  lI M2 v1 v3 (fun v4 =>
  F_XModel_find_15 n n l0 l1 l2 l3 l4 v4 M2)))
set_option maxHeartbeats 4000000 in
set_option maxRecDepth 100000 in
theorem E_XModel_find {g : qG} {X : qX} {Z : qZ} (hn : 1 ≤ zn Z) (hl : 23 ≤ zl Z) {n : Nat} {l0 : Nat} {l1 : Int32} {l2 : Int32} {l3 : Int32} {l4 : Int32} {M : PM} (h : F_XModel_find n l0 l1 l2 l3 l4 M = some (zr Z, zf Z)) : EW Y_XModel_find g X Z 0 [(0, .ref l0), (1, .int l1), (2, .int l2), (3, .int l3), (4, .int l4)] [] M := by
  unfold F_XModel_find at h
  refine ew_aload_n 0 d_XModel_find_0 rfl rfl ?_
  obtain ⟨v1, av1, bv1, h⟩ := gR_inv h
  refine ew_gR 0 7 d_XModel_find_1 fl_XModel_26 av1 bv1 ?_
  refine ew_iload_n 1 d_XModel_find_4 rfl rfl ?_
  refine ew_iload_n 2 d_XModel_find_5 rfl rfl ?_
  refine ew_iload_n 3 d_XModel_find_6 rfl rfl ?_
  refine ew_iload d_XModel_find_7 rfl ?_
  obtain ⟨v3, M2, hM2, h⟩ := cI_inv h
  refine ew_callS [.int l1, .int l2, .int l3, .int l4] d_XModel_find_9 cs_XModel_91 (T_XModel_chainOf hM2) (Nat.le_trans (Nat.le_of_ble_eq_true rfl) hn) (Nat.le_trans (Nat.le_of_ble_eq_true rfl) hl) (Nat.le_of_ble_eq_true rfl) rfl rfl ?_
  obtain ⟨v4, av4, bv4, cv4, ev4, h⟩ := lI_inv h
  refine ew_lI d_XModel_find_12 av4 bv4 cv4 ev4 ?_
  refine ew_istore (L' := [(0, .ref l0), (1, .int l1), (2, .int l2), (3, .int l3), (4, .int l4), (5, .int v4)]) [1, 2, 3, 4, 5, 0] d_XModel_find_13 (by decide) rfl ?_
  exact E_XModel_find_15 hn hl n l0 l1 l2 l3 l4 v4 M2 h
theorem T_XModel_find {n : Nat} {l0 : Nat} {l1 : Int32} {l2 : Int32} {l3 : Int32} {l4 : Int32} {M Mf : PM} {res : qRs} (h : F_XModel_find n l0 l1 l2 l3 l4 M = some (res, Mf)) : CT Y_XModel_find 1 23 [.ref l0, .int l1, .int l2, .int l3, .int l4] M res Mf :=
  CT_of (by decide) (Nat.le_of_ble_eq_true rfl) (qHd_ne (by decide)) (fun g X ad0 => E_XModel_find (g := g) (X := X) (Z := (ad0, M, res, Mf, 1, 23)) (Nat.le_refl _) (Nat.le_refl _) h)
theorem d_XModel_told_0 : decode Y_XModel_told.2.1 0 = .ok (.aload_n 0, 1) := by decide +kernel
theorem d_XModel_told_1 : decode Y_XModel_told.2.1 1 = .ok (.iload_n 1, 1) := by decide +kernel
theorem d_XModel_told_2 : decode Y_XModel_told.2.1 2 = .ok (.iload_n 2, 1) := by decide +kernel
theorem d_XModel_told_3 : decode Y_XModel_told.2.1 3 = .ok (.iload_n 3, 1) := by decide +kernel
theorem d_XModel_told_4 : decode Y_XModel_told.2.1 4 = .ok (.iload 4, 2) := by decide +kernel
theorem d_XModel_told_6 : decode Y_XModel_told.2.1 6 = .ok (.invokevirtual 105, 3) := by decide +kernel
theorem d_XModel_told_9 : decode Y_XModel_told.2.1 9 = .ok (.istore 6, 2) := by decide +kernel
theorem d_XModel_told_11 : decode Y_XModel_told.2.1 11 = .ok (.iload 6, 2) := by decide +kernel
theorem d_XModel_told_13 : decode Y_XModel_told.2.1 13 = .ok (.ifCond .lt (6), 3) := by decide +kernel
theorem d_XModel_told_16 : decode Y_XModel_told.2.1 16 = .ok (.iload 6, 2) := by decide +kernel
theorem d_XModel_told_18 : decode Y_XModel_told.2.1 18 = .ok (.ireturn, 1) := by decide +kernel
theorem d_XModel_told_19 : decode Y_XModel_told.2.1 19 = .ok (.iload_n 1, 1) := by decide +kernel
theorem d_XModel_told_20 : decode Y_XModel_told.2.1 20 = .ok (.bipush (6), 2) := by decide +kernel
theorem d_XModel_told_22 : decode Y_XModel_told.2.1 22 = .ok (.if_icmp .eq (9), 3) := by decide +kernel
theorem d_XModel_told_25 : decode Y_XModel_told.2.1 25 = .ok (.iload_n 1, 1) := by decide +kernel
theorem d_XModel_told_26 : decode Y_XModel_told.2.1 26 = .ok (.bipush (8), 2) := by decide +kernel
theorem d_XModel_told_28 : decode Y_XModel_told.2.1 28 = .ok (.if_icmp .ne (12), 3) := by decide +kernel
theorem d_XModel_told_31 : decode Y_XModel_told.2.1 31 = .ok (.iload_n 3, 1) := by decide +kernel
theorem d_XModel_told_32 : decode Y_XModel_told.2.1 32 = .ok (.iload_n 2, 1) := by decide +kernel
theorem d_XModel_told_33 : decode Y_XModel_told.2.1 33 = .ok (.if_icmp .ge (7), 3) := by decide +kernel
theorem d_XModel_told_36 : decode Y_XModel_told.2.1 36 = .ok (.iconst 1, 1) := by decide +kernel
theorem d_XModel_told_37 : decode Y_XModel_told.2.1 37 = .ok (.goto (4), 3) := by decide +kernel
theorem d_XModel_told_40 : decode Y_XModel_told.2.1 40 = .ok (.iconst 0, 1) := by decide +kernel
theorem d_XModel_told_41 : decode Y_XModel_told.2.1 41 = .ok (.istore 7, 2) := by decide +kernel
theorem d_XModel_told_43 : decode Y_XModel_told.2.1 43 = .ok (.aload_n 0, 1) := by decide +kernel
theorem d_XModel_told_44 : decode Y_XModel_told.2.1 44 = .ok (.invokevirtual 84, 3) := by decide +kernel
theorem d_XModel_told_47 : decode Y_XModel_told.2.1 47 = .ok (.aload_n 0, 1) := by decide +kernel
theorem d_XModel_told_48 : decode Y_XModel_told.2.1 48 = .ok (.iload_n 1, 1) := by decide +kernel
theorem d_XModel_told_49 : decode Y_XModel_told.2.1 49 = .ok (.iload 7, 2) := by decide +kernel
theorem d_XModel_told_51 : decode Y_XModel_told.2.1 51 = .ok (.ifCond .eq (7), 3) := by decide +kernel
theorem d_XModel_told_54 : decode Y_XModel_told.2.1 54 = .ok (.iload_n 3, 1) := by decide +kernel
theorem d_XModel_told_55 : decode Y_XModel_told.2.1 55 = .ok (.goto (4), 3) := by decide +kernel
theorem d_XModel_told_58 : decode Y_XModel_told.2.1 58 = .ok (.iload_n 2, 1) := by decide +kernel
theorem d_XModel_told_59 : decode Y_XModel_told.2.1 59 = .ok (.iload 7, 2) := by decide +kernel
theorem d_XModel_told_61 : decode Y_XModel_told.2.1 61 = .ok (.ifCond .eq (7), 3) := by decide +kernel
theorem d_XModel_told_64 : decode Y_XModel_told.2.1 64 = .ok (.iload_n 2, 1) := by decide +kernel
theorem d_XModel_told_65 : decode Y_XModel_told.2.1 65 = .ok (.goto (4), 3) := by decide +kernel
theorem d_XModel_told_68 : decode Y_XModel_told.2.1 68 = .ok (.iload_n 3, 1) := by decide +kernel
theorem d_XModel_told_69 : decode Y_XModel_told.2.1 69 = .ok (.iload 4, 2) := by decide +kernel
theorem d_XModel_told_71 : decode Y_XModel_told.2.1 71 = .ok (.invokevirtual 99, 3) := by decide +kernel
theorem d_XModel_told_74 : decode Y_XModel_told.2.1 74 = .ok (.istore 6, 2) := by decide +kernel
theorem d_XModel_told_76 : decode Y_XModel_told.2.1 76 = .ok (.iload 6, 2) := by decide +kernel
theorem d_XModel_told_78 : decode Y_XModel_told.2.1 78 = .ok (.ifCond .lt (6), 3) := by decide +kernel
theorem d_XModel_told_81 : decode Y_XModel_told.2.1 81 = .ok (.iload 6, 2) := by decide +kernel
theorem d_XModel_told_83 : decode Y_XModel_told.2.1 83 = .ok (.ireturn, 1) := by decide +kernel
theorem d_XModel_told_84 : decode Y_XModel_told.2.1 84 = .ok (.aload_n 0, 1) := by decide +kernel
theorem d_XModel_told_85 : decode Y_XModel_told.2.1 85 = .ok (.getfield 7, 3) := by decide +kernel
theorem d_XModel_told_88 : decode Y_XModel_told.2.1 88 = .ok (.sipush (300), 3) := by decide +kernel
theorem d_XModel_told_91 : decode Y_XModel_told.2.1 91 = .ok (.if_icmp .ne (10), 3) := by decide +kernel
theorem d_XModel_told_94 : decode Y_XModel_told.2.1 94 = .ok (.aload_n 0, 1) := by decide +kernel
theorem d_XModel_told_95 : decode Y_XModel_told.2.1 95 = .ok (.iload 5, 2) := by decide +kernel
theorem d_XModel_told_97 : decode Y_XModel_told.2.1 97 = .ok (.invokevirtual 111, 3) := by decide +kernel
theorem d_XModel_told_100 : decode Y_XModel_told.2.1 100 = .ok (.ireturn, 1) := by decide +kernel
theorem d_XModel_told_101 : decode Y_XModel_told.2.1 101 = .ok (.aload_n 0, 1) := by decide +kernel
theorem d_XModel_told_102 : decode Y_XModel_told.2.1 102 = .ok (.iload_n 1, 1) := by decide +kernel
theorem d_XModel_told_103 : decode Y_XModel_told.2.1 103 = .ok (.iload 7, 2) := by decide +kernel
theorem d_XModel_told_105 : decode Y_XModel_told.2.1 105 = .ok (.ifCond .eq (7), 3) := by decide +kernel
theorem d_XModel_told_108 : decode Y_XModel_told.2.1 108 = .ok (.iload_n 3, 1) := by decide +kernel
theorem d_XModel_told_109 : decode Y_XModel_told.2.1 109 = .ok (.goto (4), 3) := by decide +kernel
theorem d_XModel_told_112 : decode Y_XModel_told.2.1 112 = .ok (.iload_n 2, 1) := by decide +kernel
theorem d_XModel_told_113 : decode Y_XModel_told.2.1 113 = .ok (.iload 7, 2) := by decide +kernel
theorem d_XModel_told_115 : decode Y_XModel_told.2.1 115 = .ok (.ifCond .eq (7), 3) := by decide +kernel
theorem d_XModel_told_118 : decode Y_XModel_told.2.1 118 = .ok (.iload_n 2, 1) := by decide +kernel
theorem d_XModel_told_119 : decode Y_XModel_told.2.1 119 = .ok (.goto (4), 3) := by decide +kernel
theorem d_XModel_told_122 : decode Y_XModel_told.2.1 122 = .ok (.iload_n 3, 1) := by decide +kernel
theorem d_XModel_told_123 : decode Y_XModel_told.2.1 123 = .ok (.iload 4, 2) := by decide +kernel
theorem d_XModel_told_125 : decode Y_XModel_told.2.1 125 = .ok (.invokevirtual 102, 3) := by decide +kernel
theorem d_XModel_told_128 : decode Y_XModel_told.2.1 128 = .ok (.istore 6, 2) := by decide +kernel
theorem d_XModel_told_130 : decode Y_XModel_told.2.1 130 = .ok (.aload_n 0, 1) := by decide +kernel
theorem d_XModel_told_131 : decode Y_XModel_told.2.1 131 = .ok (.dup, 1) := by decide +kernel
theorem d_XModel_told_132 : decode Y_XModel_told.2.1 132 = .ok (.getfield 7, 3) := by decide +kernel
theorem d_XModel_told_135 : decode Y_XModel_told.2.1 135 = .ok (.iconst 1, 1) := by decide +kernel
theorem d_XModel_told_136 : decode Y_XModel_told.2.1 136 = .ok (.iadd, 1) := by decide +kernel
theorem d_XModel_told_137 : decode Y_XModel_told.2.1 137 = .ok (.putfield 7, 3) := by decide +kernel
theorem d_XModel_told_140 : decode Y_XModel_told.2.1 140 = .ok (.iload 6, 2) := by decide +kernel
theorem d_XModel_told_142 : decode Y_XModel_told.2.1 142 = .ok (.ireturn, 1) := by decide +kernel
def F_XModel_told_123 (n : Nat) (l0 : Nat) (l4 : Int32) (s0 : Nat) (s1 : Int32) (s2 : Int32) (s3 : Int32) (M : PM) : qO :=
  kO 0 M s0 (
  cI (F_XModel_add n s0 s1 s2 s3 l4 M) (fun v2 M1 =>
  gI 0 M1 l0 1 (fun v3 =>
  pF 0 M1 l0 1 (.int (v3 + (1 : Int32))) (fun M4 =>
  some (.inl (some (.int v2)), M4)))))
set_option maxHeartbeats 4000000 in
set_option maxRecDepth 100000 in
theorem E_XModel_told_123 {g : qG} {X : qX} {Z : qZ} (hn : 3 ≤ zn Z) (hl : 69 ≤ zl Z) {n : Nat} {l0 : Nat} {l4 : Int32} {s0 : Nat} {s1 : Int32} {s2 : Int32} {s3 : Int32} {M : PM} (h : F_XModel_told_123 n l0 l4 s0 s1 s2 s3 M = some (zr Z, zf Z)) : EW Y_XModel_told g X Z 123 [(0, .ref l0), (4, .int l4)] [.int s3, .int s2, .int s1, .ref s0] M := by
  unfold F_XModel_told_123 at h
  refine ew_iload d_XModel_told_123 rfl ?_
  obtain ⟨kM1, h⟩ := kO_inv h
  obtain ⟨v2, M1, hM1, h⟩ := cI_inv h
  refine ew_callV 0 [.int s1, .int s2, .int s3, .int l4] d_XModel_told_125 cv_XModel_102 (T_XModel_add hM1) kM1 (Nat.le_trans (Nat.le_of_ble_eq_true rfl) hn) (Nat.le_trans (Nat.le_of_ble_eq_true rfl) hl) (Nat.le_of_ble_eq_true rfl) rfl rfl ?_
  refine ew_istore (L' := [(0, .ref l0), (4, .int l4), (6, .int v2)]) [1, 2, 0] d_XModel_told_128 (by decide) rfl ?_
  refine ew_aload_n 0 d_XModel_told_130 rfl rfl ?_
  refine ew_dup d_XModel_told_131 rfl ?_
  obtain ⟨v3, av3, bv3, h⟩ := gI_inv h
  refine ew_gI 0 1 d_XModel_told_132 fl_XModel_7 av3 bv3 ?_
  refine ew_iconst (1) d_XModel_told_135 (by decide) ?_
  refine ew_iadd d_XModel_told_136 ?_
  obtain ⟨M4, aM4, eM4, h⟩ := pF_inv h
  refine ew_pF 0 1 d_XModel_told_137 fl_XModel_7 aM4 eM4 (fun ad => ⟨rfl, rfl⟩) ?_
  refine ew_iload d_XModel_told_140 rfl ?_
  obtain ⟨hz, hm⟩ := Prod.mk.inj (Option.some.inj h)
  exact ew_ireturn d_XModel_told_142 rfl hz.symm hm.symm
def F_XModel_told_113 (n : Nat) (l0 : Nat) (l2 : Int32) (l3 : Int32) (l4 : Int32) (l7 : Int32) (s0 : Nat) (s1 : Int32) (s2 : Int32) (M : PM) : qO :=
  if l7 = (0 : Int32) then
    F_XModel_told_123 n l0 l4 s0 s1 s2 l3 M
  else
    F_XModel_told_123 n l0 l4 s0 s1 s2 l2 M
set_option maxHeartbeats 4000000 in
set_option maxRecDepth 100000 in
theorem E_XModel_told_113 {g : qG} {X : qX} {Z : qZ} (hn : 3 ≤ zn Z) (hl : 69 ≤ zl Z) {n : Nat} {l0 : Nat} {l2 : Int32} {l3 : Int32} {l4 : Int32} {l7 : Int32} {s0 : Nat} {s1 : Int32} {s2 : Int32} {M : PM} (h : F_XModel_told_113 n l0 l2 l3 l4 l7 s0 s1 s2 M = some (zr Z, zf Z)) : EW Y_XModel_told g X Z 113 [(0, .ref l0), (2, .int l2), (3, .int l3), (4, .int l4), (7, .int l7)] [.int s2, .int s1, .ref s0] M := by
  unfold F_XModel_told_113 at h
  refine ew_iload d_XModel_told_113 rfl ?_
  refine ew_if_eq 122 d_XModel_told_115 (by decide) (fun c1 => ?_) (fun c1 => ?_)
  · rw [if_pos c1] at h
    refine ew_iload_n 3 d_XModel_told_122 rfl rfl ?_
    exact ew_pick (L' := [(0, .ref l0), (4, .int l4)]) [0, 3] rfl (E_XModel_told_123 hn hl h)
  · rw [if_neg c1] at h
    refine ew_iload_n 2 d_XModel_told_118 rfl rfl ?_
    refine ew_goto 123 d_XModel_told_119 (by decide) ?_
    exact ew_pick (L' := [(0, .ref l0), (4, .int l4)]) [0, 3] rfl (E_XModel_told_123 hn hl h)
def F_XModel_told_69 (n : Nat) (l0 : Nat) (l1 : Int32) (l2 : Int32) (l3 : Int32) (l4 : Int32) (l5 : Int32) (l7 : Int32) (s0 : Nat) (s1 : Int32) (s2 : Int32) (s3 : Int32) (M : PM) : qO :=
  kO 0 M s0 (
  cI (F_XModel_find n s0 s1 s2 s3 l4 M) (fun v2 M1 =>
  if v2 < (0 : Int32) then
    gI 0 M1 l0 1 (fun v4 =>
    if v4 = (300 : Int32) then
      kO 0 M1 l0 (
      cI (F_XModel_fail n l0 l5 M1) (fun v8 M7 =>
      some (.inl (some (.int v8)), M7)))
    else
      if l7 = (0 : Int32) then
        F_XModel_told_113 n l0 l2 l3 l4 l7 l0 l1 l2 M1
      else
        F_XModel_told_113 n l0 l2 l3 l4 l7 l0 l1 l3 M1)
  else
    some (.inl (some (.int v2)), M1)))
set_option maxHeartbeats 4000000 in
set_option maxRecDepth 100000 in
theorem E_XModel_told_69 {g : qG} {X : qX} {Z : qZ} (hn : 3 ≤ zn Z) (hl : 69 ≤ zl Z) {n : Nat} {l0 : Nat} {l1 : Int32} {l2 : Int32} {l3 : Int32} {l4 : Int32} {l5 : Int32} {l7 : Int32} {s0 : Nat} {s1 : Int32} {s2 : Int32} {s3 : Int32} {M : PM} (h : F_XModel_told_69 n l0 l1 l2 l3 l4 l5 l7 s0 s1 s2 s3 M = some (zr Z, zf Z)) : EW Y_XModel_told g X Z 69 [(0, .ref l0), (1, .int l1), (2, .int l2), (3, .int l3), (4, .int l4), (5, .int l5), (7, .int l7)] [.int s3, .int s2, .int s1, .ref s0] M := by
  unfold F_XModel_told_69 at h
  refine ew_iload d_XModel_told_69 rfl ?_
  obtain ⟨kM1, h⟩ := kO_inv h
  obtain ⟨v2, M1, hM1, h⟩ := cI_inv h
  refine ew_callV 0 [.int s1, .int s2, .int s3, .int l4] d_XModel_told_71 cv_XModel_99 (T_XModel_find hM1) kM1 (Nat.le_trans (Nat.le_of_ble_eq_true rfl) hn) (Nat.le_trans (Nat.le_of_ble_eq_true rfl) hl) (Nat.le_of_ble_eq_true rfl) rfl rfl ?_
  refine ew_istore (L' := [(0, .ref l0), (1, .int l1), (2, .int l2), (3, .int l3), (4, .int l4), (5, .int l5), (6, .int v2), (7, .int l7)]) [1, 2, 3, 4, 5, 6, 0, 7] d_XModel_told_74 (by decide) rfl ?_
  refine ew_iload d_XModel_told_76 rfl ?_
  refine ew_if_lt 84 d_XModel_told_78 (by decide) (fun c3 => ?_) (fun c3 => ?_)
  · rw [if_pos c3] at h
    refine ew_aload_n 0 d_XModel_told_84 rfl rfl ?_
    obtain ⟨v4, av4, bv4, h⟩ := gI_inv h
    refine ew_gI 0 1 d_XModel_told_85 fl_XModel_7 av4 bv4 ?_
    refine ew_sipush (300) d_XModel_told_88 (by decide +kernel) ?_
    refine ew_icmp_ne 101 d_XModel_told_91 (by decide) (fun c5 => ?_) (fun c5 => ?_)
    · rw [if_neg c5] at h
      refine ew_aload_n 0 d_XModel_told_101 rfl rfl ?_
      refine ew_iload_n 1 d_XModel_told_102 rfl rfl ?_
      refine ew_iload d_XModel_told_103 rfl ?_
      refine ew_if_eq 112 d_XModel_told_105 (by decide) (fun c6 => ?_) (fun c6 => ?_)
      · rw [if_pos c6] at h
        refine ew_iload_n 2 d_XModel_told_112 rfl rfl ?_
        exact ew_pick (L' := [(0, .ref l0), (2, .int l2), (3, .int l3), (4, .int l4), (7, .int l7)]) [0, 2, 3, 4, 7] rfl (E_XModel_told_113 hn hl h)
      · rw [if_neg c6] at h
        refine ew_iload_n 3 d_XModel_told_108 rfl rfl ?_
        refine ew_goto 113 d_XModel_told_109 (by decide) ?_
        exact ew_pick (L' := [(0, .ref l0), (2, .int l2), (3, .int l3), (4, .int l4), (7, .int l7)]) [0, 2, 3, 4, 7] rfl (E_XModel_told_113 hn hl h)
    · rw [if_pos c5] at h
      refine ew_aload_n 0 d_XModel_told_94 rfl rfl ?_
      refine ew_iload d_XModel_told_95 rfl ?_
      obtain ⟨kM7, h⟩ := kO_inv h
      obtain ⟨v8, M7, hM7, h⟩ := cI_inv h
      refine ew_callV 0 [.int l5] d_XModel_told_97 cv_XModel_111 (T_XModel_fail hM7) kM7 (Nat.le_trans (Nat.le_of_ble_eq_true rfl) hn) (Nat.le_trans (Nat.le_of_ble_eq_true rfl) hl) (Nat.le_of_ble_eq_true rfl) rfl rfl ?_
      obtain ⟨hz, hm⟩ := Prod.mk.inj (Option.some.inj h)
      exact ew_ireturn d_XModel_told_100 rfl hz.symm hm.symm
  · rw [if_neg c3] at h
    refine ew_iload d_XModel_told_81 rfl ?_
    obtain ⟨hz, hm⟩ := Prod.mk.inj (Option.some.inj h)
    exact ew_ireturn d_XModel_told_83 rfl hz.symm hm.symm
def F_XModel_told_59 (n : Nat) (l0 : Nat) (l1 : Int32) (l2 : Int32) (l3 : Int32) (l4 : Int32) (l5 : Int32) (l7 : Int32) (s0 : Nat) (s1 : Int32) (s2 : Int32) (M : PM) : qO :=
  if l7 = (0 : Int32) then
    F_XModel_told_69 n l0 l1 l2 l3 l4 l5 l7 s0 s1 s2 l3 M
  else
    F_XModel_told_69 n l0 l1 l2 l3 l4 l5 l7 s0 s1 s2 l2 M
set_option maxHeartbeats 4000000 in
set_option maxRecDepth 100000 in
theorem E_XModel_told_59 {g : qG} {X : qX} {Z : qZ} (hn : 3 ≤ zn Z) (hl : 69 ≤ zl Z) {n : Nat} {l0 : Nat} {l1 : Int32} {l2 : Int32} {l3 : Int32} {l4 : Int32} {l5 : Int32} {l7 : Int32} {s0 : Nat} {s1 : Int32} {s2 : Int32} {M : PM} (h : F_XModel_told_59 n l0 l1 l2 l3 l4 l5 l7 s0 s1 s2 M = some (zr Z, zf Z)) : EW Y_XModel_told g X Z 59 [(0, .ref l0), (1, .int l1), (2, .int l2), (3, .int l3), (4, .int l4), (5, .int l5), (7, .int l7)] [.int s2, .int s1, .ref s0] M := by
  unfold F_XModel_told_59 at h
  refine ew_iload d_XModel_told_59 rfl ?_
  refine ew_if_eq 68 d_XModel_told_61 (by decide) (fun c1 => ?_) (fun c1 => ?_)
  · rw [if_pos c1] at h
    refine ew_iload_n 3 d_XModel_told_68 rfl rfl ?_
    exact E_XModel_told_69 hn hl h
  · rw [if_neg c1] at h
    refine ew_iload_n 2 d_XModel_told_64 rfl rfl ?_
    refine ew_goto 69 d_XModel_told_65 (by decide) ?_
    exact E_XModel_told_69 hn hl h
def F_XModel_told_41 (n : Nat) (l0 : Nat) (l1 : Int32) (l2 : Int32) (l3 : Int32) (l4 : Int32) (l5 : Int32) (s0 : Int32) (M : PM) : qO :=
  kO 0 M l0 (
  cV (F_XModel_begin n l0 M) (fun M1 =>
  if s0 = (0 : Int32) then
    F_XModel_told_59 n l0 l1 l2 l3 l4 l5 s0 l0 l1 l2 M1
  else
    F_XModel_told_59 n l0 l1 l2 l3 l4 l5 s0 l0 l1 l3 M1))
set_option maxHeartbeats 4000000 in
set_option maxRecDepth 100000 in
theorem E_XModel_told_41 {g : qG} {X : qX} {Z : qZ} (hn : 3 ≤ zn Z) (hl : 69 ≤ zl Z) {n : Nat} {l0 : Nat} {l1 : Int32} {l2 : Int32} {l3 : Int32} {l4 : Int32} {l5 : Int32} {s0 : Int32} {M : PM} (h : F_XModel_told_41 n l0 l1 l2 l3 l4 l5 s0 M = some (zr Z, zf Z)) : EW Y_XModel_told g X Z 41 [(0, .ref l0), (1, .int l1), (2, .int l2), (3, .int l3), (4, .int l4), (5, .int l5)] [.int s0] M := by
  unfold F_XModel_told_41 at h
  refine ew_istore (L' := [(0, .ref l0), (1, .int l1), (2, .int l2), (3, .int l3), (4, .int l4), (5, .int l5), (7, .int s0)]) [1, 2, 3, 4, 5, 6, 0] d_XModel_told_41 (by decide) rfl ?_
  refine ew_aload_n 0 d_XModel_told_43 rfl rfl ?_
  obtain ⟨kM1, h⟩ := kO_inv h
  obtain ⟨M1, hM1, h⟩ := cV_inv h
  refine ew_callV 0 [] d_XModel_told_44 cv_XModel_84 (T_XModel_begin hM1) kM1 (Nat.le_trans (Nat.le_of_ble_eq_true rfl) hn) (Nat.le_trans (Nat.le_of_ble_eq_true rfl) hl) (Nat.le_of_ble_eq_true rfl) rfl rfl ?_
  refine ew_aload_n 0 d_XModel_told_47 rfl rfl ?_
  refine ew_iload_n 1 d_XModel_told_48 rfl rfl ?_
  refine ew_iload d_XModel_told_49 rfl ?_
  refine ew_if_eq 58 d_XModel_told_51 (by decide) (fun c2 => ?_) (fun c2 => ?_)
  · rw [if_pos c2] at h
    refine ew_iload_n 2 d_XModel_told_58 rfl rfl ?_
    exact E_XModel_told_59 hn hl h
  · rw [if_neg c2] at h
    refine ew_iload_n 3 d_XModel_told_54 rfl rfl ?_
    refine ew_goto 59 d_XModel_told_55 (by decide) ?_
    exact E_XModel_told_59 hn hl h
def F_XModel_told_40 (n : Nat) (l0 : Nat) (l1 : Int32) (l2 : Int32) (l3 : Int32) (l4 : Int32) (l5 : Int32) (M : PM) : qO :=
  F_XModel_told_41 n l0 l1 l2 l3 l4 l5 (0 : Int32) M
set_option maxHeartbeats 4000000 in
set_option maxRecDepth 100000 in
theorem E_XModel_told_40 {g : qG} {X : qX} {Z : qZ} (hn : 3 ≤ zn Z) (hl : 69 ≤ zl Z) {n : Nat} {l0 : Nat} {l1 : Int32} {l2 : Int32} {l3 : Int32} {l4 : Int32} {l5 : Int32} {M : PM} (h : F_XModel_told_40 n l0 l1 l2 l3 l4 l5 M = some (zr Z, zf Z)) : EW Y_XModel_told g X Z 40 [(0, .ref l0), (1, .int l1), (2, .int l2), (3, .int l3), (4, .int l4), (5, .int l5)] [] M := by
  unfold F_XModel_told_40 at h
  refine ew_iconst (0) d_XModel_told_40 (by decide) ?_
  exact E_XModel_told_41 hn hl h
def F_XModel_told_31 (n : Nat) (l0 : Nat) (l1 : Int32) (l2 : Int32) (l3 : Int32) (l4 : Int32) (l5 : Int32) (M : PM) : qO :=
  if l2 ≤ l3 then
    F_XModel_told_40 n l0 l1 l2 l3 l4 l5 M
  else
    F_XModel_told_41 n l0 l1 l2 l3 l4 l5 (1 : Int32) M
set_option maxHeartbeats 4000000 in
set_option maxRecDepth 100000 in
theorem E_XModel_told_31 {g : qG} {X : qX} {Z : qZ} (hn : 3 ≤ zn Z) (hl : 69 ≤ zl Z) {n : Nat} {l0 : Nat} {l1 : Int32} {l2 : Int32} {l3 : Int32} {l4 : Int32} {l5 : Int32} {M : PM} (h : F_XModel_told_31 n l0 l1 l2 l3 l4 l5 M = some (zr Z, zf Z)) : EW Y_XModel_told g X Z 31 [(0, .ref l0), (1, .int l1), (2, .int l2), (3, .int l3), (4, .int l4), (5, .int l5)] [] M := by
  unfold F_XModel_told_31 at h
  refine ew_iload_n 3 d_XModel_told_31 rfl rfl ?_
  refine ew_iload_n 2 d_XModel_told_32 rfl rfl ?_
  refine ew_icmp_ge 40 d_XModel_told_33 (by decide) (fun c1 => ?_) (fun c1 => ?_)
  · rw [if_pos c1] at h
    exact E_XModel_told_40 hn hl h
  · rw [if_neg c1] at h
    refine ew_iconst (1) d_XModel_told_36 (by decide) ?_
    refine ew_goto 41 d_XModel_told_37 (by decide) ?_
    exact E_XModel_told_41 hn hl h
def F_XModel_told (n : Nat) (l0 : Nat) (l1 : Int32) (l2 : Int32) (l3 : Int32) (l4 : Int32) (l5 : Int32) (M : PM) : qO :=
  kO 0 M l0 (
  cI (F_XModel_plainest n l0 l1 l2 l3 l4 M) (fun v2 M1 =>
  if v2 < (0 : Int32) then
    if l1 = (6 : Int32) then
      F_XModel_told_31 n l0 l1 l2 l3 l4 l5 M1
    else
      if l1 = (8 : Int32) then
        F_XModel_told_31 n l0 l1 l2 l3 l4 l5 M1
      else
        F_XModel_told_40 n l0 l1 l2 l3 l4 l5 M1
  else
    some (.inl (some (.int v2)), M1)))
set_option maxHeartbeats 4000000 in
set_option maxRecDepth 100000 in
theorem E_XModel_told {g : qG} {X : qX} {Z : qZ} (hn : 3 ≤ zn Z) (hl : 69 ≤ zl Z) {n : Nat} {l0 : Nat} {l1 : Int32} {l2 : Int32} {l3 : Int32} {l4 : Int32} {l5 : Int32} {M : PM} (h : F_XModel_told n l0 l1 l2 l3 l4 l5 M = some (zr Z, zf Z)) : EW Y_XModel_told g X Z 0 [(0, .ref l0), (1, .int l1), (2, .int l2), (3, .int l3), (4, .int l4), (5, .int l5)] [] M := by
  unfold F_XModel_told at h
  refine ew_aload_n 0 d_XModel_told_0 rfl rfl ?_
  refine ew_iload_n 1 d_XModel_told_1 rfl rfl ?_
  refine ew_iload_n 2 d_XModel_told_2 rfl rfl ?_
  refine ew_iload_n 3 d_XModel_told_3 rfl rfl ?_
  refine ew_iload d_XModel_told_4 rfl ?_
  obtain ⟨kM1, h⟩ := kO_inv h
  obtain ⟨v2, M1, hM1, h⟩ := cI_inv h
  refine ew_callV 0 [.int l1, .int l2, .int l3, .int l4] d_XModel_told_6 cv_XModel_105 (T_XModel_plainest hM1) kM1 (Nat.le_trans (Nat.le_of_ble_eq_true rfl) hn) (Nat.le_trans (Nat.le_of_ble_eq_true rfl) hl) (Nat.le_of_ble_eq_true rfl) rfl rfl ?_
  refine ew_istore (L' := [(0, .ref l0), (1, .int l1), (2, .int l2), (3, .int l3), (4, .int l4), (5, .int l5), (6, .int v2)]) [1, 2, 3, 4, 5, 6, 0] d_XModel_told_9 (by decide) rfl ?_
  refine ew_iload d_XModel_told_11 rfl ?_
  refine ew_if_lt 19 d_XModel_told_13 (by decide) (fun c3 => ?_) (fun c3 => ?_)
  · rw [if_pos c3] at h
    refine ew_iload_n 1 d_XModel_told_19 rfl rfl ?_
    refine ew_bipush (6) d_XModel_told_20 (by decide +kernel) ?_
    refine ew_icmp_eq 31 d_XModel_told_22 (by decide) (fun c4 => ?_) (fun c4 => ?_)
    · rw [if_pos c4] at h
      exact ew_pick (L' := [(0, .ref l0), (1, .int l1), (2, .int l2), (3, .int l3), (4, .int l4), (5, .int l5)]) [0, 1, 2, 3, 4, 5] rfl (E_XModel_told_31 hn hl h)
    · rw [if_neg c4] at h
      refine ew_iload_n 1 d_XModel_told_25 rfl rfl ?_
      refine ew_bipush (8) d_XModel_told_26 (by decide +kernel) ?_
      refine ew_icmp_ne 40 d_XModel_told_28 (by decide) (fun c5 => ?_) (fun c5 => ?_)
      · rw [if_neg c5] at h
        exact ew_pick (L' := [(0, .ref l0), (1, .int l1), (2, .int l2), (3, .int l3), (4, .int l4), (5, .int l5)]) [0, 1, 2, 3, 4, 5] rfl (E_XModel_told_40 hn hl h)
      · rw [if_pos c5] at h
        exact ew_pick (L' := [(0, .ref l0), (1, .int l1), (2, .int l2), (3, .int l3), (4, .int l4), (5, .int l5)]) [0, 1, 2, 3, 4, 5] rfl (E_XModel_told_31 hn hl h)
  · rw [if_neg c3] at h
    refine ew_iload d_XModel_told_16 rfl ?_
    obtain ⟨hz, hm⟩ := Prod.mk.inj (Option.some.inj h)
    exact ew_ireturn d_XModel_told_18 rfl hz.symm hm.symm
theorem T_XModel_told {n : Nat} {l0 : Nat} {l1 : Int32} {l2 : Int32} {l3 : Int32} {l4 : Int32} {l5 : Int32} {M Mf : PM} {res : qRs} (h : F_XModel_told n l0 l1 l2 l3 l4 l5 M = some (res, Mf)) : CT Y_XModel_told 3 69 [.ref l0, .int l1, .int l2, .int l3, .int l4, .int l5] M res Mf :=
  CT_of (by decide) (Nat.le_of_ble_eq_true rfl) (qHd_ne (by decide)) (fun g X ad0 => E_XModel_told (g := g) (X := X) (Z := (ad0, M, res, Mf, 3, 69)) (Nat.le_refl _) (Nat.le_refl _) h)
theorem d_XModel_apply_0 : decode Y_XModel_apply.2.1 0 = .ok (.aload_n 0, 1) := by decide +kernel
theorem d_XModel_apply_1 : decode Y_XModel_apply.2.1 1 = .ok (.iconst 0, 1) := by decide +kernel
theorem d_XModel_apply_2 : decode Y_XModel_apply.2.1 2 = .ok (.putfield 87, 3) := by decide +kernel
theorem d_XModel_apply_5 : decode Y_XModel_apply.2.1 5 = .ok (.aload_n 0, 1) := by decide +kernel
theorem d_XModel_apply_6 : decode Y_XModel_apply.2.1 6 = .ok (.iload_n 2, 1) := by decide +kernel
theorem d_XModel_apply_7 : decode Y_XModel_apply.2.1 7 = .ok (.invokevirtual 125, 3) := by decide +kernel
theorem d_XModel_apply_10 : decode Y_XModel_apply.2.1 10 = .ok (.ifCond .eq (16), 3) := by decide +kernel
theorem d_XModel_apply_13 : decode Y_XModel_apply.2.1 13 = .ok (.iload_n 3, 1) := by decide +kernel
theorem d_XModel_apply_14 : decode Y_XModel_apply.2.1 14 = .ok (.iconst (-1), 1) := by decide +kernel
theorem d_XModel_apply_15 : decode Y_XModel_apply.2.1 15 = .ok (.if_icmp .eq (17), 3) := by decide +kernel
theorem d_XModel_apply_18 : decode Y_XModel_apply.2.1 18 = .ok (.aload_n 0, 1) := by decide +kernel
theorem d_XModel_apply_19 : decode Y_XModel_apply.2.1 19 = .ok (.iload_n 3, 1) := by decide +kernel
theorem d_XModel_apply_20 : decode Y_XModel_apply.2.1 20 = .ok (.invokevirtual 125, 3) := by decide +kernel
theorem d_XModel_apply_23 : decode Y_XModel_apply.2.1 23 = .ok (.ifCond .ne (9), 3) := by decide +kernel
theorem d_XModel_apply_26 : decode Y_XModel_apply.2.1 26 = .ok (.aload_n 0, 1) := by decide +kernel
theorem d_XModel_apply_27 : decode Y_XModel_apply.2.1 27 = .ok (.iconst 1, 1) := by decide +kernel
theorem d_XModel_apply_28 : decode Y_XModel_apply.2.1 28 = .ok (.invokevirtual 111, 3) := by decide +kernel
theorem d_XModel_apply_31 : decode Y_XModel_apply.2.1 31 = .ok (.ireturn, 1) := by decide +kernel
theorem d_XModel_apply_32 : decode Y_XModel_apply.2.1 32 = .ok (.iload_n 1, 1) := by decide +kernel
theorem d_XModel_apply_33 : decode Y_XModel_apply.2.1 33 = .ok (.iconst 0, 1) := by decide +kernel
theorem d_XModel_apply_34 : decode Y_XModel_apply.2.1 34 = .ok (.bipush (7), 2) := by decide +kernel
theorem d_XModel_apply_36 : decode Y_XModel_apply.2.1 36 = .ok (.invokestatic 115, 3) := by decide +kernel
theorem d_XModel_apply_39 : decode Y_XModel_apply.2.1 39 = .ok (.ifCond .eq (23), 3) := by decide +kernel
theorem d_XModel_apply_42 : decode Y_XModel_apply.2.1 42 = .ok (.aload_n 0, 1) := by decide +kernel
theorem d_XModel_apply_43 : decode Y_XModel_apply.2.1 43 = .ok (.iload_n 2, 1) := by decide +kernel
theorem d_XModel_apply_44 : decode Y_XModel_apply.2.1 44 = .ok (.invokevirtual 129, 3) := by decide +kernel
theorem d_XModel_apply_47 : decode Y_XModel_apply.2.1 47 = .ok (.ifCond .eq (15), 3) := by decide +kernel
theorem d_XModel_apply_50 : decode Y_XModel_apply.2.1 50 = .ok (.iload_n 3, 1) := by decide +kernel
theorem d_XModel_apply_51 : decode Y_XModel_apply.2.1 51 = .ok (.ifCond .lt (17), 3) := by decide +kernel
theorem d_XModel_apply_54 : decode Y_XModel_apply.2.1 54 = .ok (.aload_n 0, 1) := by decide +kernel
theorem d_XModel_apply_55 : decode Y_XModel_apply.2.1 55 = .ok (.iload_n 3, 1) := by decide +kernel
theorem d_XModel_apply_56 : decode Y_XModel_apply.2.1 56 = .ok (.invokevirtual 129, 3) := by decide +kernel
theorem d_XModel_apply_59 : decode Y_XModel_apply.2.1 59 = .ok (.ifCond .ne (9), 3) := by decide +kernel
theorem d_XModel_apply_62 : decode Y_XModel_apply.2.1 62 = .ok (.aload_n 0, 1) := by decide +kernel
theorem d_XModel_apply_63 : decode Y_XModel_apply.2.1 63 = .ok (.iconst 2, 1) := by decide +kernel
theorem d_XModel_apply_64 : decode Y_XModel_apply.2.1 64 = .ok (.invokevirtual 111, 3) := by decide +kernel
theorem d_XModel_apply_67 : decode Y_XModel_apply.2.1 67 = .ok (.ireturn, 1) := by decide +kernel
theorem d_XModel_apply_68 : decode Y_XModel_apply.2.1 68 = .ok (.aload_n 0, 1) := by decide +kernel
theorem d_XModel_apply_69 : decode Y_XModel_apply.2.1 69 = .ok (.iconst 5, 1) := by decide +kernel
theorem d_XModel_apply_70 : decode Y_XModel_apply.2.1 70 = .ok (.iload_n 2, 1) := by decide +kernel
theorem d_XModel_apply_71 : decode Y_XModel_apply.2.1 71 = .ok (.iload_n 3, 1) := by decide +kernel
theorem d_XModel_apply_72 : decode Y_XModel_apply.2.1 72 = .ok (.iload_n 1, 1) := by decide +kernel
theorem d_XModel_apply_73 : decode Y_XModel_apply.2.1 73 = .ok (.iconst 3, 1) := by decide +kernel
theorem d_XModel_apply_74 : decode Y_XModel_apply.2.1 74 = .ok (.invokevirtual 132, 3) := by decide +kernel
theorem d_XModel_apply_77 : decode Y_XModel_apply.2.1 77 = .ok (.ireturn, 1) := by decide +kernel
def F_XModel_apply_26 (n : Nat) (l0 : Nat) (M : PM) : qO :=
  kO 0 M l0 (
  cI (F_XModel_fail n l0 (1 : Int32) M) (fun v2 M1 =>
  some (.inl (some (.int v2)), M1)))
set_option maxHeartbeats 4000000 in
set_option maxRecDepth 100000 in
theorem E_XModel_apply_26 {g : qG} {X : qX} {Z : qZ} (hn : 4 ≤ zn Z) (hl : 96 ≤ zl Z) {n : Nat} {l0 : Nat} {M : PM} (h : F_XModel_apply_26 n l0 M = some (zr Z, zf Z)) : EW Y_XModel_apply g X Z 26 [(0, .ref l0)] [] M := by
  unfold F_XModel_apply_26 at h
  refine ew_aload_n 0 d_XModel_apply_26 rfl rfl ?_
  refine ew_iconst (1) d_XModel_apply_27 (by decide) ?_
  obtain ⟨kM1, h⟩ := kO_inv h
  obtain ⟨v2, M1, hM1, h⟩ := cI_inv h
  refine ew_callV 0 [.int (1 : Int32)] d_XModel_apply_28 cv_XModel_111 (T_XModel_fail hM1) kM1 (Nat.le_trans (Nat.le_of_ble_eq_true rfl) hn) (Nat.le_trans (Nat.le_of_ble_eq_true rfl) hl) (Nat.le_of_ble_eq_true rfl) rfl rfl ?_
  obtain ⟨hz, hm⟩ := Prod.mk.inj (Option.some.inj h)
  exact ew_ireturn d_XModel_apply_31 rfl hz.symm hm.symm
def F_XModel_apply_62 (n : Nat) (l0 : Nat) (M : PM) : qO :=
  kO 0 M l0 (
  cI (F_XModel_fail n l0 (2 : Int32) M) (fun v2 M1 =>
  some (.inl (some (.int v2)), M1)))
set_option maxHeartbeats 4000000 in
set_option maxRecDepth 100000 in
theorem E_XModel_apply_62 {g : qG} {X : qX} {Z : qZ} (hn : 4 ≤ zn Z) (hl : 96 ≤ zl Z) {n : Nat} {l0 : Nat} {M : PM} (h : F_XModel_apply_62 n l0 M = some (zr Z, zf Z)) : EW Y_XModel_apply g X Z 62 [(0, .ref l0)] [] M := by
  unfold F_XModel_apply_62 at h
  refine ew_aload_n 0 d_XModel_apply_62 rfl rfl ?_
  refine ew_iconst (2) d_XModel_apply_63 (by decide) ?_
  obtain ⟨kM1, h⟩ := kO_inv h
  obtain ⟨v2, M1, hM1, h⟩ := cI_inv h
  refine ew_callV 0 [.int (2 : Int32)] d_XModel_apply_64 cv_XModel_111 (T_XModel_fail hM1) kM1 (Nat.le_trans (Nat.le_of_ble_eq_true rfl) hn) (Nat.le_trans (Nat.le_of_ble_eq_true rfl) hl) (Nat.le_of_ble_eq_true rfl) rfl rfl ?_
  obtain ⟨hz, hm⟩ := Prod.mk.inj (Option.some.inj h)
  exact ew_ireturn d_XModel_apply_67 rfl hz.symm hm.symm
def F_XModel_apply_68 (n : Nat) (l0 : Nat) (l1 : Int32) (l2 : Int32) (l3 : Int32) (M : PM) : qO :=
  kO 0 M l0 (
  cI (F_XModel_told n l0 (5 : Int32) l2 l3 l1 (3 : Int32) M) (fun v2 M1 =>
  some (.inl (some (.int v2)), M1)))
set_option maxHeartbeats 4000000 in
set_option maxRecDepth 100000 in
theorem E_XModel_apply_68 {g : qG} {X : qX} {Z : qZ} (hn : 4 ≤ zn Z) (hl : 96 ≤ zl Z) {n : Nat} {l0 : Nat} {l1 : Int32} {l2 : Int32} {l3 : Int32} {M : PM} (h : F_XModel_apply_68 n l0 l1 l2 l3 M = some (zr Z, zf Z)) : EW Y_XModel_apply g X Z 68 [(0, .ref l0), (1, .int l1), (2, .int l2), (3, .int l3)] [] M := by
  unfold F_XModel_apply_68 at h
  refine ew_aload_n 0 d_XModel_apply_68 rfl rfl ?_
  refine ew_iconst (5) d_XModel_apply_69 (by decide) ?_
  refine ew_iload_n 2 d_XModel_apply_70 rfl rfl ?_
  refine ew_iload_n 3 d_XModel_apply_71 rfl rfl ?_
  refine ew_iload_n 1 d_XModel_apply_72 rfl rfl ?_
  refine ew_iconst (3) d_XModel_apply_73 (by decide) ?_
  obtain ⟨kM1, h⟩ := kO_inv h
  obtain ⟨v2, M1, hM1, h⟩ := cI_inv h
  refine ew_callV 0 [.int (5 : Int32), .int l2, .int l3, .int l1, .int (3 : Int32)] d_XModel_apply_74 cv_XModel_132 (T_XModel_told hM1) kM1 (Nat.le_trans (Nat.le_of_ble_eq_true rfl) hn) (Nat.le_trans (Nat.le_of_ble_eq_true rfl) hl) (Nat.le_of_ble_eq_true rfl) rfl rfl ?_
  obtain ⟨hz, hm⟩ := Prod.mk.inj (Option.some.inj h)
  exact ew_ireturn d_XModel_apply_77 rfl hz.symm hm.symm
def F_XModel_apply_32 (n : Nat) (l0 : Nat) (l1 : Int32) (l2 : Int32) (l3 : Int32) (M : PM) : qO :=
  cI (F_XModel_within n l1 (0 : Int32) (7 : Int32) M) (fun v2 M1 =>
  if v2 = (0 : Int32) then
    F_XModel_apply_62 n l0 M1
  else
    kO 0 M1 l0 (
    cI (F_XModel_isWord n l0 l2 M1) (fun v5 M4 =>
    if v5 = (0 : Int32) then
      F_XModel_apply_62 n l0 M4
    else
      if l3 < (0 : Int32) then
        F_XModel_apply_68 n l0 l1 l2 l3 M4
      else
        kO 0 M4 l0 (
        cI (F_XModel_isWord n l0 l3 M4) (fun v9 M8 =>
        if v9 = (0 : Int32) then
          F_XModel_apply_62 n l0 M8
        else
          F_XModel_apply_68 n l0 l1 l2 l3 M8)))))
set_option maxHeartbeats 4000000 in
set_option maxRecDepth 100000 in
theorem E_XModel_apply_32 {g : qG} {X : qX} {Z : qZ} (hn : 4 ≤ zn Z) (hl : 96 ≤ zl Z) {n : Nat} {l0 : Nat} {l1 : Int32} {l2 : Int32} {l3 : Int32} {M : PM} (h : F_XModel_apply_32 n l0 l1 l2 l3 M = some (zr Z, zf Z)) : EW Y_XModel_apply g X Z 32 [(0, .ref l0), (1, .int l1), (2, .int l2), (3, .int l3)] [] M := by
  unfold F_XModel_apply_32 at h
  refine ew_iload_n 1 d_XModel_apply_32 rfl rfl ?_
  refine ew_iconst (0) d_XModel_apply_33 (by decide) ?_
  refine ew_bipush (7) d_XModel_apply_34 (by decide +kernel) ?_
  obtain ⟨v2, M1, hM1, h⟩ := cI_inv h
  refine ew_callS [.int l1, .int (0 : Int32), .int (7 : Int32)] d_XModel_apply_36 cs_XModel_115 (T_XModel_within hM1) (Nat.le_trans (Nat.le_of_ble_eq_true rfl) hn) (Nat.le_trans (Nat.le_of_ble_eq_true rfl) hl) (Nat.le_of_ble_eq_true rfl) rfl rfl ?_
  refine ew_if_eq 62 d_XModel_apply_39 (by decide) (fun c3 => ?_) (fun c3 => ?_)
  · rw [if_pos c3] at h
    exact ew_pick (L' := [(0, .ref l0)]) [0] rfl (E_XModel_apply_62 hn hl h)
  · rw [if_neg c3] at h
    refine ew_aload_n 0 d_XModel_apply_42 rfl rfl ?_
    refine ew_iload_n 2 d_XModel_apply_43 rfl rfl ?_
    obtain ⟨kM4, h⟩ := kO_inv h
    obtain ⟨v5, M4, hM4, h⟩ := cI_inv h
    refine ew_callV 0 [.int l2] d_XModel_apply_44 cv_XModel_129 (T_XModel_isWord hM4) kM4 (Nat.le_trans (Nat.le_of_ble_eq_true rfl) hn) (Nat.le_trans (Nat.le_of_ble_eq_true rfl) hl) (Nat.le_of_ble_eq_true rfl) rfl rfl ?_
    refine ew_if_eq 62 d_XModel_apply_47 (by decide) (fun c6 => ?_) (fun c6 => ?_)
    · rw [if_pos c6] at h
      exact ew_pick (L' := [(0, .ref l0)]) [0] rfl (E_XModel_apply_62 hn hl h)
    · rw [if_neg c6] at h
      refine ew_iload_n 3 d_XModel_apply_50 rfl rfl ?_
      refine ew_if_lt 68 d_XModel_apply_51 (by decide) (fun c7 => ?_) (fun c7 => ?_)
      · rw [if_pos c7] at h
        exact E_XModel_apply_68 hn hl h
      · rw [if_neg c7] at h
        refine ew_aload_n 0 d_XModel_apply_54 rfl rfl ?_
        refine ew_iload_n 3 d_XModel_apply_55 rfl rfl ?_
        obtain ⟨kM8, h⟩ := kO_inv h
        obtain ⟨v9, M8, hM8, h⟩ := cI_inv h
        refine ew_callV 0 [.int l3] d_XModel_apply_56 cv_XModel_129 (T_XModel_isWord hM8) kM8 (Nat.le_trans (Nat.le_of_ble_eq_true rfl) hn) (Nat.le_trans (Nat.le_of_ble_eq_true rfl) hl) (Nat.le_of_ble_eq_true rfl) rfl rfl ?_
        refine ew_if_ne 68 d_XModel_apply_59 (by decide) (fun c10 => ?_) (fun c10 => ?_)
        · rw [if_neg c10] at h
          exact E_XModel_apply_68 hn hl h
        · rw [if_pos c10] at h
          exact ew_pick (L' := [(0, .ref l0)]) [0] rfl (E_XModel_apply_62 hn hl h)
def F_XModel_apply (n : Nat) (l0 : Nat) (l1 : Int32) (l2 : Int32) (l3 : Int32) (M : PM) : qO :=
  pF 0 M l0 0 (.int (0 : Int32)) (fun M1 =>
  kO 0 M1 l0 (
  cI (F_XModel_isNode n l0 l2 M1) (fun v3 M2 =>
  if v3 = (0 : Int32) then
    F_XModel_apply_26 n l0 M2
  else
    if l3 = (-1 : Int32) then
      F_XModel_apply_32 n l0 l1 l2 l3 M2
    else
      kO 0 M2 l0 (
      cI (F_XModel_isNode n l0 l3 M2) (fun v7 M6 =>
      if v7 = (0 : Int32) then
        F_XModel_apply_26 n l0 M6
      else
        F_XModel_apply_32 n l0 l1 l2 l3 M6)))))
set_option maxHeartbeats 4000000 in
set_option maxRecDepth 100000 in
theorem E_XModel_apply {g : qG} {X : qX} {Z : qZ} (hn : 4 ≤ zn Z) (hl : 96 ≤ zl Z) {n : Nat} {l0 : Nat} {l1 : Int32} {l2 : Int32} {l3 : Int32} {M : PM} (h : F_XModel_apply n l0 l1 l2 l3 M = some (zr Z, zf Z)) : EW Y_XModel_apply g X Z 0 [(0, .ref l0), (1, .int l1), (2, .int l2), (3, .int l3)] [] M := by
  unfold F_XModel_apply at h
  refine ew_aload_n 0 d_XModel_apply_0 rfl rfl ?_
  refine ew_iconst (0) d_XModel_apply_1 (by decide) ?_
  obtain ⟨M1, aM1, eM1, h⟩ := pF_inv h
  refine ew_pF 0 0 d_XModel_apply_2 fl_XModel_87 aM1 eM1 (fun ad => ⟨rfl, rfl⟩) ?_
  refine ew_aload_n 0 d_XModel_apply_5 rfl rfl ?_
  refine ew_iload_n 2 d_XModel_apply_6 rfl rfl ?_
  obtain ⟨kM2, h⟩ := kO_inv h
  obtain ⟨v3, M2, hM2, h⟩ := cI_inv h
  refine ew_callV 0 [.int l2] d_XModel_apply_7 cv_XModel_125 (T_XModel_isNode hM2) kM2 (Nat.le_trans (Nat.le_of_ble_eq_true rfl) hn) (Nat.le_trans (Nat.le_of_ble_eq_true rfl) hl) (Nat.le_of_ble_eq_true rfl) rfl rfl ?_
  refine ew_if_eq 26 d_XModel_apply_10 (by decide) (fun c4 => ?_) (fun c4 => ?_)
  · rw [if_pos c4] at h
    exact ew_pick (L' := [(0, .ref l0)]) [0] rfl (E_XModel_apply_26 hn hl h)
  · rw [if_neg c4] at h
    refine ew_iload_n 3 d_XModel_apply_13 rfl rfl ?_
    refine ew_iconst (-1) d_XModel_apply_14 (by decide) ?_
    refine ew_icmp_eq 32 d_XModel_apply_15 (by decide) (fun c5 => ?_) (fun c5 => ?_)
    · rw [if_pos c5] at h
      exact E_XModel_apply_32 hn hl h
    · rw [if_neg c5] at h
      refine ew_aload_n 0 d_XModel_apply_18 rfl rfl ?_
      refine ew_iload_n 3 d_XModel_apply_19 rfl rfl ?_
      obtain ⟨kM6, h⟩ := kO_inv h
      obtain ⟨v7, M6, hM6, h⟩ := cI_inv h
      refine ew_callV 0 [.int l3] d_XModel_apply_20 cv_XModel_125 (T_XModel_isNode hM6) kM6 (Nat.le_trans (Nat.le_of_ble_eq_true rfl) hn) (Nat.le_trans (Nat.le_of_ble_eq_true rfl) hl) (Nat.le_of_ble_eq_true rfl) rfl rfl ?_
      refine ew_if_ne 32 d_XModel_apply_23 (by decide) (fun c8 => ?_) (fun c8 => ?_)
      · rw [if_neg c8] at h
        exact E_XModel_apply_32 hn hl h
      · rw [if_pos c8] at h
        exact ew_pick (L' := [(0, .ref l0)]) [0] rfl (E_XModel_apply_26 hn hl h)
theorem T_XModel_apply {n : Nat} {l0 : Nat} {l1 : Int32} {l2 : Int32} {l3 : Int32} {M Mf : PM} {res : qRs} (h : F_XModel_apply n l0 l1 l2 l3 M = some (res, Mf)) : CT Y_XModel_apply 4 96 [.ref l0, .int l1, .int l2, .int l3] M res Mf :=
  CT_of (by decide) (Nat.le_of_ble_eq_true rfl) (qHd_ne (by decide)) (fun g X ad0 => E_XModel_apply (g := g) (X := X) (Z := (ad0, M, res, Mf, 4, 96)) (Nat.le_refl _) (Nat.le_refl _) h)
