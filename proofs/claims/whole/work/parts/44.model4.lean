theorem d_XModel_step_0 : decode Y_XModel_step.2.1 0 = .ok (.aload_n 0, 1) := by decide +kernel
theorem d_XModel_step_1 : decode Y_XModel_step.2.1 1 = .ok (.iload_n 1, 1) := by decide +kernel
theorem d_XModel_step_2 : decode Y_XModel_step.2.1 2 = .ok (.invokevirtual 161, 3) := by decide +kernel
theorem d_XModel_step_5 : decode Y_XModel_step.2.1 5 = .ok (.iconst 0, 1) := by decide +kernel
theorem d_XModel_step_6 : decode Y_XModel_step.2.1 6 = .ok (.istore_n 2, 1) := by decide +kernel
theorem d_XModel_step_7 : decode Y_XModel_step.2.1 7 = .ok (.iload_n 2, 1) := by decide +kernel
theorem d_XModel_step_8 : decode Y_XModel_step.2.1 8 = .ok (.aload_n 0, 1) := by decide +kernel
theorem d_XModel_step_9 : decode Y_XModel_step.2.1 9 = .ok (.getfield 119, 3) := by decide +kernel
theorem d_XModel_step_12 : decode Y_XModel_step.2.1 12 = .ok (.if_icmp .ge (26), 3) := by decide +kernel
theorem d_XModel_step_15 : decode Y_XModel_step.2.1 15 = .ok (.aload_n 0, 1) := by decide +kernel
theorem d_XModel_step_16 : decode Y_XModel_step.2.1 16 = .ok (.getfield 54, 3) := by decide +kernel
theorem d_XModel_step_19 : decode Y_XModel_step.2.1 19 = .ok (.iload_n 2, 1) := by decide +kernel
theorem d_XModel_step_20 : decode Y_XModel_step.2.1 20 = .ok (.aload_n 0, 1) := by decide +kernel
theorem d_XModel_step_21 : decode Y_XModel_step.2.1 21 = .ok (.getfield 51, 3) := by decide +kernel
theorem d_XModel_step_24 : decode Y_XModel_step.2.1 24 = .ok (.aload_n 0, 1) := by decide +kernel
theorem d_XModel_step_25 : decode Y_XModel_step.2.1 25 = .ok (.getfield 35, 3) := by decide +kernel
theorem d_XModel_step_28 : decode Y_XModel_step.2.1 28 = .ok (.iload_n 2, 1) := by decide +kernel
theorem d_XModel_step_29 : decode Y_XModel_step.2.1 29 = .ok (.iaload, 1) := by decide +kernel
theorem d_XModel_step_30 : decode Y_XModel_step.2.1 30 = .ok (.iaload, 1) := by decide +kernel
theorem d_XModel_step_31 : decode Y_XModel_step.2.1 31 = .ok (.iastore, 1) := by decide +kernel
theorem d_XModel_step_32 : decode Y_XModel_step.2.1 32 = .ok (.iinc 2 (1), 3) := by decide +kernel
theorem d_XModel_step_35 : decode Y_XModel_step.2.1 35 = .ok (.goto (-28), 3) := by decide +kernel
theorem d_XModel_step_38 : decode Y_XModel_step.2.1 38 = .ok (.return_, 1) := by decide +kernel
def F_XModel_step_7 (n : Nat) : Nat → Nat → Int32 → PM → qO
  | 0, _, _, _ => none
  | f + 1, l0, l2, M =>
    gI 0 M l0 9 (fun v1 =>
    if v1 ≤ l2 then
      some (.inl none, M)
    else
      gR 0 M l0 18 (fun v3 =>
      gR 0 M l0 17 (fun v4 =>
      gR 0 M l0 12 (fun v5 =>
      lI M v5 l2 (fun v6 =>
      lI M v4 v6 (fun v7 =>
      wI M v3 l2 v7 (fun M8 =>
      bI (l2 + (1 : Int32)) (fun v9 =>
      (F_XModel_step_7 n f) l0 v9 M8))))))))
set_option maxHeartbeats 4000000 in
set_option maxRecDepth 100000 in
theorem E_XModel_step_7 {g : qG} {X : qX} {Z : qZ} (hn : 6 ≤ zn Z) (hl : 143 ≤ zl Z) {n : Nat} : ∀ (f : Nat) (l0 : Nat) (l2 : Int32) (M : PM), F_XModel_step_7 n f l0 l2 M = some (zr Z, zf Z) → EW Y_XModel_step g X Z 7 [(0, .ref l0), (2, .int l2)] [] M := by
  intro f
  induction f with
  | zero => intro l0 l2 M h; rw [F_XModel_step_7] at h; cases h
  | succ f ih =>
    intro l0 l2 M h
    rw [F_XModel_step_7] at h
    refine ew_iload_n 2 d_XModel_step_7 rfl rfl ?_
    refine ew_aload_n 0 d_XModel_step_8 rfl rfl ?_
    obtain ⟨v1, av1, bv1, h⟩ := gI_inv h
    refine ew_gI 0 9 d_XModel_step_9 fl_XModel_119 av1 bv1 ?_
    refine ew_icmp_ge 38 d_XModel_step_12 (by decide) (fun c2 => ?_) (fun c2 => ?_)
    · rw [if_pos c2] at h
      obtain ⟨hz, hm⟩ := Prod.mk.inj (Option.some.inj h)
      exact ew_return d_XModel_step_38 rfl hz.symm hm.symm
    · rw [if_neg c2] at h
      refine ew_aload_n 0 d_XModel_step_15 rfl rfl ?_
      obtain ⟨v3, av3, bv3, h⟩ := gR_inv h
      refine ew_gR 0 18 d_XModel_step_16 fl_XModel_54 av3 bv3 ?_
      refine ew_iload_n 2 d_XModel_step_19 rfl rfl ?_
      refine ew_aload_n 0 d_XModel_step_20 rfl rfl ?_
      obtain ⟨v4, av4, bv4, h⟩ := gR_inv h
      refine ew_gR 0 17 d_XModel_step_21 fl_XModel_51 av4 bv4 ?_
      refine ew_aload_n 0 d_XModel_step_24 rfl rfl ?_
      obtain ⟨v5, av5, bv5, h⟩ := gR_inv h
      refine ew_gR 0 12 d_XModel_step_25 fl_XModel_35 av5 bv5 ?_
      refine ew_iload_n 2 d_XModel_step_28 rfl rfl ?_
      obtain ⟨v6, av6, bv6, cv6, ev6, h⟩ := lI_inv h
      refine ew_lI d_XModel_step_29 av6 bv6 cv6 ev6 ?_
      obtain ⟨v7, av7, bv7, cv7, ev7, h⟩ := lI_inv h
      refine ew_lI d_XModel_step_30 av7 bv7 cv7 ev7 ?_
      obtain ⟨M8, aM8, bM8, cM8, eM8, h⟩ := wI_inv h
      refine ew_wI d_XModel_step_31 aM8 bM8 cM8 eM8 ?_
      obtain ⟨v9, ev9, h⟩ := bI_inv h
      refine ew_iinc (L' := [(0, .ref l0), (2, .int v9)]) v9 [1, 0] d_XModel_step_32 rfl (by rw [ev9]; rfl) (by decide) rfl ?_
      refine ew_goto 7 d_XModel_step_35 (by decide) ?_
      exact ih l0 v9 M8 h
def F_XModel_step (n : Nat) (l0 : Nat) (l1 : Int32) (M : PM) : qO :=
  kO 0 M l0 (
  cV (F_XModel_putIn n l0 l1 M) (fun M1 =>
  F_XModel_step_7 n n l0 (0 : Int32) M1))
set_option maxHeartbeats 4000000 in
set_option maxRecDepth 100000 in
theorem E_XModel_step {g : qG} {X : qX} {Z : qZ} (hn : 6 ≤ zn Z) (hl : 143 ≤ zl Z) {n : Nat} {l0 : Nat} {l1 : Int32} {M : PM} (h : F_XModel_step n l0 l1 M = some (zr Z, zf Z)) : EW Y_XModel_step g X Z 0 [(0, .ref l0), (1, .int l1)] [] M := by
  unfold F_XModel_step at h
  refine ew_aload_n 0 d_XModel_step_0 rfl rfl ?_
  refine ew_iload_n 1 d_XModel_step_1 rfl rfl ?_
  obtain ⟨kM1, h⟩ := kO_inv h
  obtain ⟨M1, hM1, h⟩ := cV_inv h
  refine ew_callV 0 [.int l1] d_XModel_step_2 cv_XModel_161 (T_XModel_putIn hM1) kM1 (Nat.le_trans (Nat.le_of_ble_eq_true rfl) hn) (Nat.le_trans (Nat.le_of_ble_eq_true rfl) hl) (Nat.le_of_ble_eq_true rfl) rfl rfl ?_
  refine ew_iconst (0) d_XModel_step_5 (by decide) ?_
  refine ew_istore_n (L' := [(0, .ref l0), (1, .int l1), (2, .int (0 : Int32))]) 2 [1, 2, 0] d_XModel_step_6 rfl (by decide) rfl ?_
  exact ew_pick (L' := [(0, .ref l0), (2, .int (0 : Int32))]) [0, 2] rfl (E_XModel_step_7 hn hl n l0 (0 : Int32) M1 h)
theorem T_XModel_step {n : Nat} {l0 : Nat} {l1 : Int32} {M Mf : PM} {res : qRs} (h : F_XModel_step n l0 l1 M = some (res, Mf)) : CT Y_XModel_step 6 143 [.ref l0, .int l1] M res Mf :=
  CT_of (by decide) (Nat.le_of_ble_eq_true rfl) (qHd_ne (by decide)) (fun g X ad0 => E_XModel_step (g := g) (X := X) (Z := (ad0, M, res, Mf, 6, 143)) (Nat.le_refl _) (Nat.le_refl _) h)
theorem d_XModel_gather_0 : decode Y_XModel_gather.2.1 0 = .ok (.aload_n 0, 1) := by decide +kernel
theorem d_XModel_gather_1 : decode Y_XModel_gather.2.1 1 = .ok (.invokevirtual 149, 3) := by decide +kernel
theorem d_XModel_gather_4 : decode Y_XModel_gather.2.1 4 = .ok (.aload_n 0, 1) := by decide +kernel
theorem d_XModel_gather_5 : decode Y_XModel_gather.2.1 5 = .ok (.iconst 0, 1) := by decide +kernel
theorem d_XModel_gather_6 : decode Y_XModel_gather.2.1 6 = .ok (.putfield 164, 3) := by decide +kernel
theorem d_XModel_gather_9 : decode Y_XModel_gather.2.1 9 = .ok (.aload_n 0, 1) := by decide +kernel
theorem d_XModel_gather_10 : decode Y_XModel_gather.2.1 10 = .ok (.iconst 0, 1) := by decide +kernel
theorem d_XModel_gather_11 : decode Y_XModel_gather.2.1 11 = .ok (.putfield 167, 3) := by decide +kernel
theorem d_XModel_gather_14 : decode Y_XModel_gather.2.1 14 = .ok (.aload_n 0, 1) := by decide +kernel
theorem d_XModel_gather_15 : decode Y_XModel_gather.2.1 15 = .ok (.iconst 0, 1) := by decide +kernel
theorem d_XModel_gather_16 : decode Y_XModel_gather.2.1 16 = .ok (.putfield 170, 3) := by decide +kernel
theorem d_XModel_gather_19 : decode Y_XModel_gather.2.1 19 = .ok (.aload_n 0, 1) := by decide +kernel
theorem d_XModel_gather_20 : decode Y_XModel_gather.2.1 20 = .ok (.iconst 0, 1) := by decide +kernel
theorem d_XModel_gather_21 : decode Y_XModel_gather.2.1 21 = .ok (.putfield 173, 3) := by decide +kernel
theorem d_XModel_gather_24 : decode Y_XModel_gather.2.1 24 = .ok (.iconst 0, 1) := by decide +kernel
theorem d_XModel_gather_25 : decode Y_XModel_gather.2.1 25 = .ok (.istore_n 1, 1) := by decide +kernel
theorem d_XModel_gather_26 : decode Y_XModel_gather.2.1 26 = .ok (.iload_n 1, 1) := by decide +kernel
theorem d_XModel_gather_27 : decode Y_XModel_gather.2.1 27 = .ok (.aload_n 0, 1) := by decide +kernel
theorem d_XModel_gather_28 : decode Y_XModel_gather.2.1 28 = .ok (.getfield 81, 3) := by decide +kernel
theorem d_XModel_gather_31 : decode Y_XModel_gather.2.1 31 = .ok (.if_icmp .ge (115), 3) := by decide +kernel
theorem d_XModel_gather_34 : decode Y_XModel_gather.2.1 34 = .ok (.aload_n 0, 1) := by decide +kernel
theorem d_XModel_gather_35 : decode Y_XModel_gather.2.1 35 = .ok (.getfield 63, 3) := by decide +kernel
theorem d_XModel_gather_38 : decode Y_XModel_gather.2.1 38 = .ok (.iload_n 1, 1) := by decide +kernel
theorem d_XModel_gather_39 : decode Y_XModel_gather.2.1 39 = .ok (.baload, 1) := by decide +kernel
theorem d_XModel_gather_40 : decode Y_XModel_gather.2.1 40 = .ok (.ifCond .eq (27), 3) := by decide +kernel
theorem d_XModel_gather_43 : decode Y_XModel_gather.2.1 43 = .ok (.aload_n 0, 1) := by decide +kernel
theorem d_XModel_gather_44 : decode Y_XModel_gather.2.1 44 = .ok (.getfield 13, 3) := by decide +kernel
theorem d_XModel_gather_47 : decode Y_XModel_gather.2.1 47 = .ok (.iload_n 1, 1) := by decide +kernel
theorem d_XModel_gather_48 : decode Y_XModel_gather.2.1 48 = .ok (.iaload, 1) := by decide +kernel
theorem d_XModel_gather_49 : decode Y_XModel_gather.2.1 49 = .ok (.iconst 3, 1) := by decide +kernel
theorem d_XModel_gather_50 : decode Y_XModel_gather.2.1 50 = .ok (.if_icmp .eq (13), 3) := by decide +kernel
theorem d_XModel_gather_53 : decode Y_XModel_gather.2.1 53 = .ok (.aload_n 0, 1) := by decide +kernel
theorem d_XModel_gather_54 : decode Y_XModel_gather.2.1 54 = .ok (.getfield 13, 3) := by decide +kernel
theorem d_XModel_gather_57 : decode Y_XModel_gather.2.1 57 = .ok (.iload_n 1, 1) := by decide +kernel
theorem d_XModel_gather_58 : decode Y_XModel_gather.2.1 58 = .ok (.iaload, 1) := by decide +kernel
theorem d_XModel_gather_59 : decode Y_XModel_gather.2.1 59 = .ok (.iconst 5, 1) := by decide +kernel
theorem d_XModel_gather_60 : decode Y_XModel_gather.2.1 60 = .ok (.if_icmp .ne (7), 3) := by decide +kernel
theorem d_XModel_gather_63 : decode Y_XModel_gather.2.1 63 = .ok (.iconst 1, 1) := by decide +kernel
theorem d_XModel_gather_64 : decode Y_XModel_gather.2.1 64 = .ok (.goto (4), 3) := by decide +kernel
theorem d_XModel_gather_67 : decode Y_XModel_gather.2.1 67 = .ok (.iconst 0, 1) := by decide +kernel
theorem d_XModel_gather_68 : decode Y_XModel_gather.2.1 68 = .ok (.istore_n 2, 1) := by decide +kernel
theorem d_XModel_gather_69 : decode Y_XModel_gather.2.1 69 = .ok (.aload_n 0, 1) := by decide +kernel
theorem d_XModel_gather_70 : decode Y_XModel_gather.2.1 70 = .ok (.getfield 63, 3) := by decide +kernel
theorem d_XModel_gather_73 : decode Y_XModel_gather.2.1 73 = .ok (.iload_n 1, 1) := by decide +kernel
theorem d_XModel_gather_74 : decode Y_XModel_gather.2.1 74 = .ok (.baload, 1) := by decide +kernel
theorem d_XModel_gather_75 : decode Y_XModel_gather.2.1 75 = .ok (.ifCond .eq (27), 3) := by decide +kernel
theorem d_XModel_gather_78 : decode Y_XModel_gather.2.1 78 = .ok (.aload_n 0, 1) := by decide +kernel
theorem d_XModel_gather_79 : decode Y_XModel_gather.2.1 79 = .ok (.getfield 13, 3) := by decide +kernel
theorem d_XModel_gather_82 : decode Y_XModel_gather.2.1 82 = .ok (.iload_n 1, 1) := by decide +kernel
theorem d_XModel_gather_83 : decode Y_XModel_gather.2.1 83 = .ok (.iaload, 1) := by decide +kernel
theorem d_XModel_gather_84 : decode Y_XModel_gather.2.1 84 = .ok (.iconst 4, 1) := by decide +kernel
theorem d_XModel_gather_85 : decode Y_XModel_gather.2.1 85 = .ok (.if_icmp .eq (13), 3) := by decide +kernel
theorem d_XModel_gather_88 : decode Y_XModel_gather.2.1 88 = .ok (.aload_n 0, 1) := by decide +kernel
theorem d_XModel_gather_89 : decode Y_XModel_gather.2.1 89 = .ok (.getfield 13, 3) := by decide +kernel
theorem d_XModel_gather_92 : decode Y_XModel_gather.2.1 92 = .ok (.iload_n 1, 1) := by decide +kernel
theorem d_XModel_gather_93 : decode Y_XModel_gather.2.1 93 = .ok (.iaload, 1) := by decide +kernel
theorem d_XModel_gather_94 : decode Y_XModel_gather.2.1 94 = .ok (.iconst 2, 1) := by decide +kernel
theorem d_XModel_gather_95 : decode Y_XModel_gather.2.1 95 = .ok (.if_icmp .ne (7), 3) := by decide +kernel
theorem d_XModel_gather_98 : decode Y_XModel_gather.2.1 98 = .ok (.iconst 1, 1) := by decide +kernel
theorem d_XModel_gather_99 : decode Y_XModel_gather.2.1 99 = .ok (.goto (4), 3) := by decide +kernel
theorem d_XModel_gather_102 : decode Y_XModel_gather.2.1 102 = .ok (.iconst 0, 1) := by decide +kernel
theorem d_XModel_gather_103 : decode Y_XModel_gather.2.1 103 = .ok (.istore_n 3, 1) := by decide +kernel
theorem d_XModel_gather_104 : decode Y_XModel_gather.2.1 104 = .ok (.aload_n 0, 1) := by decide +kernel
theorem d_XModel_gather_105 : decode Y_XModel_gather.2.1 105 = .ok (.dup, 1) := by decide +kernel
theorem d_XModel_gather_106 : decode Y_XModel_gather.2.1 106 = .ok (.getfield 170, 3) := by decide +kernel
theorem d_XModel_gather_109 : decode Y_XModel_gather.2.1 109 = .ok (.iload_n 2, 1) := by decide +kernel
theorem d_XModel_gather_110 : decode Y_XModel_gather.2.1 110 = .ok (.ifCond .eq (7), 3) := by decide +kernel
theorem d_XModel_gather_113 : decode Y_XModel_gather.2.1 113 = .ok (.iconst 1, 1) := by decide +kernel
theorem d_XModel_gather_114 : decode Y_XModel_gather.2.1 114 = .ok (.goto (4), 3) := by decide +kernel
theorem d_XModel_gather_117 : decode Y_XModel_gather.2.1 117 = .ok (.iconst 0, 1) := by decide +kernel
theorem d_XModel_gather_118 : decode Y_XModel_gather.2.1 118 = .ok (.iadd, 1) := by decide +kernel
theorem d_XModel_gather_119 : decode Y_XModel_gather.2.1 119 = .ok (.putfield 170, 3) := by decide +kernel
theorem d_XModel_gather_122 : decode Y_XModel_gather.2.1 122 = .ok (.aload_n 0, 1) := by decide +kernel
theorem d_XModel_gather_123 : decode Y_XModel_gather.2.1 123 = .ok (.dup, 1) := by decide +kernel
theorem d_XModel_gather_124 : decode Y_XModel_gather.2.1 124 = .ok (.getfield 173, 3) := by decide +kernel
theorem d_XModel_gather_127 : decode Y_XModel_gather.2.1 127 = .ok (.iload_n 3, 1) := by decide +kernel
theorem d_XModel_gather_128 : decode Y_XModel_gather.2.1 128 = .ok (.ifCond .eq (7), 3) := by decide +kernel
theorem d_XModel_gather_131 : decode Y_XModel_gather.2.1 131 = .ok (.iconst 1, 1) := by decide +kernel
theorem d_XModel_gather_132 : decode Y_XModel_gather.2.1 132 = .ok (.goto (4), 3) := by decide +kernel
theorem d_XModel_gather_135 : decode Y_XModel_gather.2.1 135 = .ok (.iconst 0, 1) := by decide +kernel
theorem d_XModel_gather_136 : decode Y_XModel_gather.2.1 136 = .ok (.iadd, 1) := by decide +kernel
theorem d_XModel_gather_137 : decode Y_XModel_gather.2.1 137 = .ok (.putfield 173, 3) := by decide +kernel
theorem d_XModel_gather_140 : decode Y_XModel_gather.2.1 140 = .ok (.iinc 1 (1), 3) := by decide +kernel
theorem d_XModel_gather_143 : decode Y_XModel_gather.2.1 143 = .ok (.goto (-117), 3) := by decide +kernel
theorem d_XModel_gather_146 : decode Y_XModel_gather.2.1 146 = .ok (.aload_n 0, 1) := by decide +kernel
theorem d_XModel_gather_147 : decode Y_XModel_gather.2.1 147 = .ok (.getfield 170, 3) := by decide +kernel
theorem d_XModel_gather_150 : decode Y_XModel_gather.2.1 150 = .ok (.bipush (7), 2) := by decide +kernel
theorem d_XModel_gather_152 : decode Y_XModel_gather.2.1 152 = .ok (.if_icmp .gt (12), 3) := by decide +kernel
theorem d_XModel_gather_155 : decode Y_XModel_gather.2.1 155 = .ok (.aload_n 0, 1) := by decide +kernel
theorem d_XModel_gather_156 : decode Y_XModel_gather.2.1 156 = .ok (.getfield 173, 3) := by decide +kernel
theorem d_XModel_gather_159 : decode Y_XModel_gather.2.1 159 = .ok (.bipush (6), 2) := by decide +kernel
theorem d_XModel_gather_161 : decode Y_XModel_gather.2.1 161 = .ok (.if_icmp .le (4), 3) := by decide +kernel
theorem d_XModel_gather_164 : decode Y_XModel_gather.2.1 164 = .ok (.return_, 1) := by decide +kernel
theorem d_XModel_gather_165 : decode Y_XModel_gather.2.1 165 = .ok (.iconst 0, 1) := by decide +kernel
theorem d_XModel_gather_166 : decode Y_XModel_gather.2.1 166 = .ok (.istore_n 1, 1) := by decide +kernel
theorem d_XModel_gather_167 : decode Y_XModel_gather.2.1 167 = .ok (.iload_n 1, 1) := by decide +kernel
theorem d_XModel_gather_168 : decode Y_XModel_gather.2.1 168 = .ok (.aload_n 0, 1) := by decide +kernel
theorem d_XModel_gather_169 : decode Y_XModel_gather.2.1 169 = .ok (.getfield 81, 3) := by decide +kernel
theorem d_XModel_gather_172 : decode Y_XModel_gather.2.1 172 = .ok (.if_icmp .ge (87), 3) := by decide +kernel
theorem d_XModel_gather_175 : decode Y_XModel_gather.2.1 175 = .ok (.aload_n 0, 1) := by decide +kernel
theorem d_XModel_gather_176 : decode Y_XModel_gather.2.1 176 = .ok (.getfield 63, 3) := by decide +kernel
theorem d_XModel_gather_179 : decode Y_XModel_gather.2.1 179 = .ok (.iload_n 1, 1) := by decide +kernel
theorem d_XModel_gather_180 : decode Y_XModel_gather.2.1 180 = .ok (.baload, 1) := by decide +kernel
theorem d_XModel_gather_181 : decode Y_XModel_gather.2.1 181 = .ok (.ifCond .eq (33), 3) := by decide +kernel
theorem d_XModel_gather_184 : decode Y_XModel_gather.2.1 184 = .ok (.aload_n 0, 1) := by decide +kernel
theorem d_XModel_gather_185 : decode Y_XModel_gather.2.1 185 = .ok (.getfield 13, 3) := by decide +kernel
theorem d_XModel_gather_188 : decode Y_XModel_gather.2.1 188 = .ok (.iload_n 1, 1) := by decide +kernel
theorem d_XModel_gather_189 : decode Y_XModel_gather.2.1 189 = .ok (.iaload, 1) := by decide +kernel
theorem d_XModel_gather_190 : decode Y_XModel_gather.2.1 190 = .ok (.iconst 3, 1) := by decide +kernel
theorem d_XModel_gather_191 : decode Y_XModel_gather.2.1 191 = .ok (.if_icmp .ne (23), 3) := by decide +kernel
theorem d_XModel_gather_194 : decode Y_XModel_gather.2.1 194 = .ok (.aload_n 0, 1) := by decide +kernel
theorem d_XModel_gather_195 : decode Y_XModel_gather.2.1 195 = .ok (.getfield 69, 3) := by decide +kernel
theorem d_XModel_gather_198 : decode Y_XModel_gather.2.1 198 = .ok (.aload_n 0, 1) := by decide +kernel
theorem d_XModel_gather_199 : decode Y_XModel_gather.2.1 199 = .ok (.getfield 164, 3) := by decide +kernel
theorem d_XModel_gather_202 : decode Y_XModel_gather.2.1 202 = .ok (.iload_n 1, 1) := by decide +kernel
theorem d_XModel_gather_203 : decode Y_XModel_gather.2.1 203 = .ok (.iastore, 1) := by decide +kernel
theorem d_XModel_gather_204 : decode Y_XModel_gather.2.1 204 = .ok (.aload_n 0, 1) := by decide +kernel
theorem d_XModel_gather_205 : decode Y_XModel_gather.2.1 205 = .ok (.dup, 1) := by decide +kernel
theorem d_XModel_gather_206 : decode Y_XModel_gather.2.1 206 = .ok (.getfield 164, 3) := by decide +kernel
theorem d_XModel_gather_209 : decode Y_XModel_gather.2.1 209 = .ok (.iconst 1, 1) := by decide +kernel
theorem d_XModel_gather_210 : decode Y_XModel_gather.2.1 210 = .ok (.iadd, 1) := by decide +kernel
theorem d_XModel_gather_211 : decode Y_XModel_gather.2.1 211 = .ok (.putfield 164, 3) := by decide +kernel
theorem d_XModel_gather_214 : decode Y_XModel_gather.2.1 214 = .ok (.aload_n 0, 1) := by decide +kernel
theorem d_XModel_gather_215 : decode Y_XModel_gather.2.1 215 = .ok (.getfield 63, 3) := by decide +kernel
theorem d_XModel_gather_218 : decode Y_XModel_gather.2.1 218 = .ok (.iload_n 1, 1) := by decide +kernel
theorem d_XModel_gather_219 : decode Y_XModel_gather.2.1 219 = .ok (.baload, 1) := by decide +kernel
theorem d_XModel_gather_220 : decode Y_XModel_gather.2.1 220 = .ok (.ifCond .eq (33), 3) := by decide +kernel
theorem d_XModel_gather_223 : decode Y_XModel_gather.2.1 223 = .ok (.aload_n 0, 1) := by decide +kernel
theorem d_XModel_gather_224 : decode Y_XModel_gather.2.1 224 = .ok (.getfield 13, 3) := by decide +kernel
theorem d_XModel_gather_227 : decode Y_XModel_gather.2.1 227 = .ok (.iload_n 1, 1) := by decide +kernel
theorem d_XModel_gather_228 : decode Y_XModel_gather.2.1 228 = .ok (.iaload, 1) := by decide +kernel
theorem d_XModel_gather_229 : decode Y_XModel_gather.2.1 229 = .ok (.iconst 4, 1) := by decide +kernel
theorem d_XModel_gather_230 : decode Y_XModel_gather.2.1 230 = .ok (.if_icmp .ne (23), 3) := by decide +kernel
theorem d_XModel_gather_233 : decode Y_XModel_gather.2.1 233 = .ok (.aload_n 0, 1) := by decide +kernel
theorem d_XModel_gather_234 : decode Y_XModel_gather.2.1 234 = .ok (.getfield 75, 3) := by decide +kernel
theorem d_XModel_gather_237 : decode Y_XModel_gather.2.1 237 = .ok (.aload_n 0, 1) := by decide +kernel
theorem d_XModel_gather_238 : decode Y_XModel_gather.2.1 238 = .ok (.getfield 167, 3) := by decide +kernel
theorem d_XModel_gather_241 : decode Y_XModel_gather.2.1 241 = .ok (.iload_n 1, 1) := by decide +kernel
theorem d_XModel_gather_242 : decode Y_XModel_gather.2.1 242 = .ok (.iastore, 1) := by decide +kernel
theorem d_XModel_gather_243 : decode Y_XModel_gather.2.1 243 = .ok (.aload_n 0, 1) := by decide +kernel
theorem d_XModel_gather_244 : decode Y_XModel_gather.2.1 244 = .ok (.dup, 1) := by decide +kernel
theorem d_XModel_gather_245 : decode Y_XModel_gather.2.1 245 = .ok (.getfield 167, 3) := by decide +kernel
theorem d_XModel_gather_248 : decode Y_XModel_gather.2.1 248 = .ok (.iconst 1, 1) := by decide +kernel
theorem d_XModel_gather_249 : decode Y_XModel_gather.2.1 249 = .ok (.iadd, 1) := by decide +kernel
theorem d_XModel_gather_250 : decode Y_XModel_gather.2.1 250 = .ok (.putfield 167, 3) := by decide +kernel
theorem d_XModel_gather_253 : decode Y_XModel_gather.2.1 253 = .ok (.iinc 1 (1), 3) := by decide +kernel
theorem d_XModel_gather_256 : decode Y_XModel_gather.2.1 256 = .ok (.goto (-89), 3) := by decide +kernel
theorem d_XModel_gather_259 : decode Y_XModel_gather.2.1 259 = .ok (.aload_n 0, 1) := by decide +kernel
theorem d_XModel_gather_260 : decode Y_XModel_gather.2.1 260 = .ok (.getfield 63, 3) := by decide +kernel
theorem d_XModel_gather_263 : decode Y_XModel_gather.2.1 263 = .ok (.iconst 2, 1) := by decide +kernel
theorem d_XModel_gather_264 : decode Y_XModel_gather.2.1 264 = .ok (.baload, 1) := by decide +kernel
theorem d_XModel_gather_265 : decode Y_XModel_gather.2.1 265 = .ok (.ifCond .eq (23), 3) := by decide +kernel
theorem d_XModel_gather_268 : decode Y_XModel_gather.2.1 268 = .ok (.aload_n 0, 1) := by decide +kernel
theorem d_XModel_gather_269 : decode Y_XModel_gather.2.1 269 = .ok (.getfield 75, 3) := by decide +kernel
theorem d_XModel_gather_272 : decode Y_XModel_gather.2.1 272 = .ok (.aload_n 0, 1) := by decide +kernel
theorem d_XModel_gather_273 : decode Y_XModel_gather.2.1 273 = .ok (.getfield 167, 3) := by decide +kernel
theorem d_XModel_gather_276 : decode Y_XModel_gather.2.1 276 = .ok (.iconst 2, 1) := by decide +kernel
theorem d_XModel_gather_277 : decode Y_XModel_gather.2.1 277 = .ok (.iastore, 1) := by decide +kernel
theorem d_XModel_gather_278 : decode Y_XModel_gather.2.1 278 = .ok (.aload_n 0, 1) := by decide +kernel
theorem d_XModel_gather_279 : decode Y_XModel_gather.2.1 279 = .ok (.dup, 1) := by decide +kernel
theorem d_XModel_gather_280 : decode Y_XModel_gather.2.1 280 = .ok (.getfield 167, 3) := by decide +kernel
theorem d_XModel_gather_283 : decode Y_XModel_gather.2.1 283 = .ok (.iconst 1, 1) := by decide +kernel
theorem d_XModel_gather_284 : decode Y_XModel_gather.2.1 284 = .ok (.iadd, 1) := by decide +kernel
theorem d_XModel_gather_285 : decode Y_XModel_gather.2.1 285 = .ok (.putfield 167, 3) := by decide +kernel
theorem d_XModel_gather_288 : decode Y_XModel_gather.2.1 288 = .ok (.aload_n 0, 1) := by decide +kernel
theorem d_XModel_gather_289 : decode Y_XModel_gather.2.1 289 = .ok (.iconst 0, 1) := by decide +kernel
theorem d_XModel_gather_290 : decode Y_XModel_gather.2.1 290 = .ok (.putfield 176, 3) := by decide +kernel
theorem d_XModel_gather_293 : decode Y_XModel_gather.2.1 293 = .ok (.iconst 0, 1) := by decide +kernel
theorem d_XModel_gather_294 : decode Y_XModel_gather.2.1 294 = .ok (.istore_n 1, 1) := by decide +kernel
theorem d_XModel_gather_295 : decode Y_XModel_gather.2.1 295 = .ok (.iload_n 1, 1) := by decide +kernel
theorem d_XModel_gather_296 : decode Y_XModel_gather.2.1 296 = .ok (.aload_n 0, 1) := by decide +kernel
theorem d_XModel_gather_297 : decode Y_XModel_gather.2.1 297 = .ok (.getfield 81, 3) := by decide +kernel
theorem d_XModel_gather_300 : decode Y_XModel_gather.2.1 300 = .ok (.if_icmp .ge (53), 3) := by decide +kernel
theorem d_XModel_gather_303 : decode Y_XModel_gather.2.1 303 = .ok (.aload_n 0, 1) := by decide +kernel
theorem d_XModel_gather_304 : decode Y_XModel_gather.2.1 304 = .ok (.getfield 63, 3) := by decide +kernel
theorem d_XModel_gather_307 : decode Y_XModel_gather.2.1 307 = .ok (.iload_n 1, 1) := by decide +kernel
theorem d_XModel_gather_308 : decode Y_XModel_gather.2.1 308 = .ok (.baload, 1) := by decide +kernel
theorem d_XModel_gather_309 : decode Y_XModel_gather.2.1 309 = .ok (.ifCond .eq (38), 3) := by decide +kernel
theorem d_XModel_gather_312 : decode Y_XModel_gather.2.1 312 = .ok (.aload_n 0, 1) := by decide +kernel
theorem d_XModel_gather_313 : decode Y_XModel_gather.2.1 313 = .ok (.getfield 13, 3) := by decide +kernel
theorem d_XModel_gather_316 : decode Y_XModel_gather.2.1 316 = .ok (.iload_n 1, 1) := by decide +kernel
theorem d_XModel_gather_317 : decode Y_XModel_gather.2.1 317 = .ok (.iaload, 1) := by decide +kernel
theorem d_XModel_gather_318 : decode Y_XModel_gather.2.1 318 = .ok (.iconst 5, 1) := by decide +kernel
theorem d_XModel_gather_319 : decode Y_XModel_gather.2.1 319 = .ok (.if_icmp .ne (28), 3) := by decide +kernel
theorem d_XModel_gather_322 : decode Y_XModel_gather.2.1 322 = .ok (.aload_n 0, 1) := by decide +kernel
theorem d_XModel_gather_323 : decode Y_XModel_gather.2.1 323 = .ok (.getfield 69, 3) := by decide +kernel
theorem d_XModel_gather_326 : decode Y_XModel_gather.2.1 326 = .ok (.aload_n 0, 1) := by decide +kernel
theorem d_XModel_gather_327 : decode Y_XModel_gather.2.1 327 = .ok (.getfield 164, 3) := by decide +kernel
theorem d_XModel_gather_330 : decode Y_XModel_gather.2.1 330 = .ok (.aload_n 0, 1) := by decide +kernel
theorem d_XModel_gather_331 : decode Y_XModel_gather.2.1 331 = .ok (.getfield 176, 3) := by decide +kernel
theorem d_XModel_gather_334 : decode Y_XModel_gather.2.1 334 = .ok (.iadd, 1) := by decide +kernel
theorem d_XModel_gather_335 : decode Y_XModel_gather.2.1 335 = .ok (.iload_n 1, 1) := by decide +kernel
theorem d_XModel_gather_336 : decode Y_XModel_gather.2.1 336 = .ok (.iastore, 1) := by decide +kernel
theorem d_XModel_gather_337 : decode Y_XModel_gather.2.1 337 = .ok (.aload_n 0, 1) := by decide +kernel
theorem d_XModel_gather_338 : decode Y_XModel_gather.2.1 338 = .ok (.dup, 1) := by decide +kernel
theorem d_XModel_gather_339 : decode Y_XModel_gather.2.1 339 = .ok (.getfield 176, 3) := by decide +kernel
theorem d_XModel_gather_342 : decode Y_XModel_gather.2.1 342 = .ok (.iconst 1, 1) := by decide +kernel
theorem d_XModel_gather_343 : decode Y_XModel_gather.2.1 343 = .ok (.iadd, 1) := by decide +kernel
theorem d_XModel_gather_344 : decode Y_XModel_gather.2.1 344 = .ok (.putfield 176, 3) := by decide +kernel
theorem d_XModel_gather_347 : decode Y_XModel_gather.2.1 347 = .ok (.iinc 1 (1), 3) := by decide +kernel
theorem d_XModel_gather_350 : decode Y_XModel_gather.2.1 350 = .ok (.goto (-55), 3) := by decide +kernel
theorem d_XModel_gather_353 : decode Y_XModel_gather.2.1 353 = .ok (.return_, 1) := by decide +kernel
def F_XModel_gather_136 (n : Nat) (rec26 : Nat → Int32 → PM → qO) (l0 : Nat) (l1 : Int32) (s0 : Nat) (s1 : Int32) (s2 : Int32) (M : PM) : qO :=
  pF 0 M s0 30 (.int (s1 + s2)) (fun M1 =>
  bI (l1 + (1 : Int32)) (fun v2 =>
  rec26 l0 v2 M1))
set_option maxHeartbeats 4000000 in
set_option maxRecDepth 100000 in
theorem E_XModel_gather_136 {g : qG} {X : qX} {Z : qZ} (hn : 2 ≤ zn Z) (hl : 42 ≤ zl Z) {n : Nat} {rec26 : Nat → Int32 → PM → qO} (hrec26 : ∀ (l0 : Nat) (l1 : Int32) (M : PM), rec26 l0 l1 M = some (zr Z, zf Z) → EW Y_XModel_gather g X Z 26 [(0, .ref l0), (1, .int l1)] [] M) {l0 : Nat} {l1 : Int32} {s0 : Nat} {s1 : Int32} {s2 : Int32} {M : PM} (h : F_XModel_gather_136 n rec26 l0 l1 s0 s1 s2 M = some (zr Z, zf Z)) : EW Y_XModel_gather g X Z 136 [(0, .ref l0), (1, .int l1)] [.int s2, .int s1, .ref s0] M := by
  unfold F_XModel_gather_136 at h
  refine ew_iadd d_XModel_gather_136 ?_
  obtain ⟨M1, aM1, eM1, h⟩ := pF_inv h
  refine ew_pF 0 30 d_XModel_gather_137 fl_XModel_173 aM1 eM1 (fun ad => ⟨rfl, rfl⟩) ?_
  obtain ⟨v2, ev2, h⟩ := bI_inv h
  refine ew_iinc (L' := [(0, .ref l0), (1, .int v2)]) v2 [1, 0] d_XModel_gather_140 rfl (by rw [ev2]; rfl) (by decide) rfl ?_
  refine ew_goto 26 d_XModel_gather_143 (by decide) ?_
  exact hrec26 l0 v2 M1 h
def F_XModel_gather_118 (n : Nat) (rec26 : Nat → Int32 → PM → qO) (l0 : Nat) (l1 : Int32) (l3 : Int32) (s0 : Nat) (s1 : Int32) (s2 : Int32) (M : PM) : qO :=
  pF 0 M s0 29 (.int (s1 + s2)) (fun M1 =>
  gI 0 M1 l0 30 (fun v2 =>
  if l3 = (0 : Int32) then
    F_XModel_gather_136 n rec26 l0 l1 l0 v2 (0 : Int32) M1
  else
    F_XModel_gather_136 n rec26 l0 l1 l0 v2 (1 : Int32) M1))
set_option maxHeartbeats 4000000 in
set_option maxRecDepth 100000 in
theorem E_XModel_gather_118 {g : qG} {X : qX} {Z : qZ} (hn : 2 ≤ zn Z) (hl : 42 ≤ zl Z) {n : Nat} {rec26 : Nat → Int32 → PM → qO} (hrec26 : ∀ (l0 : Nat) (l1 : Int32) (M : PM), rec26 l0 l1 M = some (zr Z, zf Z) → EW Y_XModel_gather g X Z 26 [(0, .ref l0), (1, .int l1)] [] M) {l0 : Nat} {l1 : Int32} {l3 : Int32} {s0 : Nat} {s1 : Int32} {s2 : Int32} {M : PM} (h : F_XModel_gather_118 n rec26 l0 l1 l3 s0 s1 s2 M = some (zr Z, zf Z)) : EW Y_XModel_gather g X Z 118 [(0, .ref l0), (1, .int l1), (3, .int l3)] [.int s2, .int s1, .ref s0] M := by
  unfold F_XModel_gather_118 at h
  refine ew_iadd d_XModel_gather_118 ?_
  obtain ⟨M1, aM1, eM1, h⟩ := pF_inv h
  refine ew_pF 0 29 d_XModel_gather_119 fl_XModel_170 aM1 eM1 (fun ad => ⟨rfl, rfl⟩) ?_
  refine ew_aload_n 0 d_XModel_gather_122 rfl rfl ?_
  refine ew_dup d_XModel_gather_123 rfl ?_
  obtain ⟨v2, av2, bv2, h⟩ := gI_inv h
  refine ew_gI 0 30 d_XModel_gather_124 fl_XModel_173 av2 bv2 ?_
  refine ew_iload_n 3 d_XModel_gather_127 rfl rfl ?_
  refine ew_if_eq 135 d_XModel_gather_128 (by decide) (fun c3 => ?_) (fun c3 => ?_)
  · rw [if_pos c3] at h
    refine ew_iconst (0) d_XModel_gather_135 (by decide) ?_
    exact ew_pick (L' := [(0, .ref l0), (1, .int l1)]) [0, 1] rfl (E_XModel_gather_136 hn hl hrec26 h)
  · rw [if_neg c3] at h
    refine ew_iconst (1) d_XModel_gather_131 (by decide) ?_
    refine ew_goto 136 d_XModel_gather_132 (by decide) ?_
    exact ew_pick (L' := [(0, .ref l0), (1, .int l1)]) [0, 1] rfl (E_XModel_gather_136 hn hl hrec26 h)
def F_XModel_gather_103 (n : Nat) (rec26 : Nat → Int32 → PM → qO) (l0 : Nat) (l1 : Int32) (l2 : Int32) (s0 : Int32) (M : PM) : qO :=
  gI 0 M l0 29 (fun v1 =>
  if l2 = (0 : Int32) then
    F_XModel_gather_118 n rec26 l0 l1 s0 l0 v1 (0 : Int32) M
  else
    F_XModel_gather_118 n rec26 l0 l1 s0 l0 v1 (1 : Int32) M)
set_option maxHeartbeats 4000000 in
set_option maxRecDepth 100000 in
theorem E_XModel_gather_103 {g : qG} {X : qX} {Z : qZ} (hn : 2 ≤ zn Z) (hl : 42 ≤ zl Z) {n : Nat} {rec26 : Nat → Int32 → PM → qO} (hrec26 : ∀ (l0 : Nat) (l1 : Int32) (M : PM), rec26 l0 l1 M = some (zr Z, zf Z) → EW Y_XModel_gather g X Z 26 [(0, .ref l0), (1, .int l1)] [] M) {l0 : Nat} {l1 : Int32} {l2 : Int32} {s0 : Int32} {M : PM} (h : F_XModel_gather_103 n rec26 l0 l1 l2 s0 M = some (zr Z, zf Z)) : EW Y_XModel_gather g X Z 103 [(0, .ref l0), (1, .int l1), (2, .int l2)] [.int s0] M := by
  unfold F_XModel_gather_103 at h
  refine ew_istore_n (L' := [(0, .ref l0), (1, .int l1), (2, .int l2), (3, .int s0)]) 3 [1, 2, 3, 0] d_XModel_gather_103 rfl (by decide) rfl ?_
  refine ew_aload_n 0 d_XModel_gather_104 rfl rfl ?_
  refine ew_dup d_XModel_gather_105 rfl ?_
  obtain ⟨v1, av1, bv1, h⟩ := gI_inv h
  refine ew_gI 0 29 d_XModel_gather_106 fl_XModel_170 av1 bv1 ?_
  refine ew_iload_n 2 d_XModel_gather_109 rfl rfl ?_
  refine ew_if_eq 117 d_XModel_gather_110 (by decide) (fun c2 => ?_) (fun c2 => ?_)
  · rw [if_pos c2] at h
    refine ew_iconst (0) d_XModel_gather_117 (by decide) ?_
    exact ew_pick (L' := [(0, .ref l0), (1, .int l1), (3, .int s0)]) [0, 1, 3] rfl (E_XModel_gather_118 hn hl hrec26 h)
  · rw [if_neg c2] at h
    refine ew_iconst (1) d_XModel_gather_113 (by decide) ?_
    refine ew_goto 118 d_XModel_gather_114 (by decide) ?_
    exact ew_pick (L' := [(0, .ref l0), (1, .int l1), (3, .int s0)]) [0, 1, 3] rfl (E_XModel_gather_118 hn hl hrec26 h)
def F_XModel_gather_102 (n : Nat) (rec26 : Nat → Int32 → PM → qO) (l0 : Nat) (l1 : Int32) (l2 : Int32) (M : PM) : qO :=
  F_XModel_gather_103 n rec26 l0 l1 l2 (0 : Int32) M
set_option maxHeartbeats 4000000 in
set_option maxRecDepth 100000 in
theorem E_XModel_gather_102 {g : qG} {X : qX} {Z : qZ} (hn : 2 ≤ zn Z) (hl : 42 ≤ zl Z) {n : Nat} {rec26 : Nat → Int32 → PM → qO} (hrec26 : ∀ (l0 : Nat) (l1 : Int32) (M : PM), rec26 l0 l1 M = some (zr Z, zf Z) → EW Y_XModel_gather g X Z 26 [(0, .ref l0), (1, .int l1)] [] M) {l0 : Nat} {l1 : Int32} {l2 : Int32} {M : PM} (h : F_XModel_gather_102 n rec26 l0 l1 l2 M = some (zr Z, zf Z)) : EW Y_XModel_gather g X Z 102 [(0, .ref l0), (1, .int l1), (2, .int l2)] [] M := by
  unfold F_XModel_gather_102 at h
  refine ew_iconst (0) d_XModel_gather_102 (by decide) ?_
  exact E_XModel_gather_103 hn hl hrec26 h
def F_XModel_gather_98 (n : Nat) (rec26 : Nat → Int32 → PM → qO) (l0 : Nat) (l1 : Int32) (l2 : Int32) (M : PM) : qO :=
  F_XModel_gather_103 n rec26 l0 l1 l2 (1 : Int32) M
set_option maxHeartbeats 4000000 in
set_option maxRecDepth 100000 in
theorem E_XModel_gather_98 {g : qG} {X : qX} {Z : qZ} (hn : 2 ≤ zn Z) (hl : 42 ≤ zl Z) {n : Nat} {rec26 : Nat → Int32 → PM → qO} (hrec26 : ∀ (l0 : Nat) (l1 : Int32) (M : PM), rec26 l0 l1 M = some (zr Z, zf Z) → EW Y_XModel_gather g X Z 26 [(0, .ref l0), (1, .int l1)] [] M) {l0 : Nat} {l1 : Int32} {l2 : Int32} {M : PM} (h : F_XModel_gather_98 n rec26 l0 l1 l2 M = some (zr Z, zf Z)) : EW Y_XModel_gather g X Z 98 [(0, .ref l0), (1, .int l1), (2, .int l2)] [] M := by
  unfold F_XModel_gather_98 at h
  refine ew_iconst (1) d_XModel_gather_98 (by decide) ?_
  refine ew_goto 103 d_XModel_gather_99 (by decide) ?_
  exact E_XModel_gather_103 hn hl hrec26 h
def F_XModel_gather_68 (n : Nat) (rec26 : Nat → Int32 → PM → qO) (l0 : Nat) (l1 : Int32) (s0 : Int32) (M : PM) : qO :=
  gR 0 M l0 21 (fun v1 =>
  lZ M v1 l1 (fun v2 =>
  if v2 = (0 : Int32) then
    F_XModel_gather_102 n rec26 l0 l1 s0 M
  else
    gR 0 M l0 3 (fun v4 =>
    lI M v4 l1 (fun v5 =>
    if v5 = (4 : Int32) then
      F_XModel_gather_98 n rec26 l0 l1 s0 M
    else
      gR 0 M l0 3 (fun v7 =>
      lI M v7 l1 (fun v8 =>
      if v8 = (2 : Int32) then
        F_XModel_gather_98 n rec26 l0 l1 s0 M
      else
        F_XModel_gather_102 n rec26 l0 l1 s0 M))))))
set_option maxHeartbeats 4000000 in
set_option maxRecDepth 100000 in
theorem E_XModel_gather_68 {g : qG} {X : qX} {Z : qZ} (hn : 2 ≤ zn Z) (hl : 42 ≤ zl Z) {n : Nat} {rec26 : Nat → Int32 → PM → qO} (hrec26 : ∀ (l0 : Nat) (l1 : Int32) (M : PM), rec26 l0 l1 M = some (zr Z, zf Z) → EW Y_XModel_gather g X Z 26 [(0, .ref l0), (1, .int l1)] [] M) {l0 : Nat} {l1 : Int32} {s0 : Int32} {M : PM} (h : F_XModel_gather_68 n rec26 l0 l1 s0 M = some (zr Z, zf Z)) : EW Y_XModel_gather g X Z 68 [(0, .ref l0), (1, .int l1)] [.int s0] M := by
  unfold F_XModel_gather_68 at h
  refine ew_istore_n (L' := [(0, .ref l0), (1, .int l1), (2, .int s0)]) 2 [1, 2, 0] d_XModel_gather_68 rfl (by decide) rfl ?_
  refine ew_aload_n 0 d_XModel_gather_69 rfl rfl ?_
  obtain ⟨v1, av1, bv1, h⟩ := gR_inv h
  refine ew_gR 0 21 d_XModel_gather_70 fl_XModel_63 av1 bv1 ?_
  refine ew_iload_n 1 d_XModel_gather_73 rfl rfl ?_
  obtain ⟨v2, av2, bv2, cv2, ev2, h⟩ := lZ_inv h
  refine ew_lZ d_XModel_gather_74 av2 bv2 cv2 ev2 ?_
  refine ew_if_eq 102 d_XModel_gather_75 (by decide) (fun c3 => ?_) (fun c3 => ?_)
  · rw [if_pos c3] at h
    exact E_XModel_gather_102 hn hl hrec26 h
  · rw [if_neg c3] at h
    refine ew_aload_n 0 d_XModel_gather_78 rfl rfl ?_
    obtain ⟨v4, av4, bv4, h⟩ := gR_inv h
    refine ew_gR 0 3 d_XModel_gather_79 fl_XModel_13 av4 bv4 ?_
    refine ew_iload_n 1 d_XModel_gather_82 rfl rfl ?_
    obtain ⟨v5, av5, bv5, cv5, ev5, h⟩ := lI_inv h
    refine ew_lI d_XModel_gather_83 av5 bv5 cv5 ev5 ?_
    refine ew_iconst (4) d_XModel_gather_84 (by decide) ?_
    refine ew_icmp_eq 98 d_XModel_gather_85 (by decide) (fun c6 => ?_) (fun c6 => ?_)
    · rw [if_pos c6] at h
      exact E_XModel_gather_98 hn hl hrec26 h
    · rw [if_neg c6] at h
      refine ew_aload_n 0 d_XModel_gather_88 rfl rfl ?_
      obtain ⟨v7, av7, bv7, h⟩ := gR_inv h
      refine ew_gR 0 3 d_XModel_gather_89 fl_XModel_13 av7 bv7 ?_
      refine ew_iload_n 1 d_XModel_gather_92 rfl rfl ?_
      obtain ⟨v8, av8, bv8, cv8, ev8, h⟩ := lI_inv h
      refine ew_lI d_XModel_gather_93 av8 bv8 cv8 ev8 ?_
      refine ew_iconst (2) d_XModel_gather_94 (by decide) ?_
      refine ew_icmp_ne 102 d_XModel_gather_95 (by decide) (fun c9 => ?_) (fun c9 => ?_)
      · rw [if_neg c9] at h
        exact E_XModel_gather_102 hn hl hrec26 h
      · rw [if_pos c9] at h
        exact E_XModel_gather_98 hn hl hrec26 h
def F_XModel_gather_67 (n : Nat) (rec26 : Nat → Int32 → PM → qO) (l0 : Nat) (l1 : Int32) (M : PM) : qO :=
  F_XModel_gather_68 n rec26 l0 l1 (0 : Int32) M
set_option maxHeartbeats 4000000 in
set_option maxRecDepth 100000 in
theorem E_XModel_gather_67 {g : qG} {X : qX} {Z : qZ} (hn : 2 ≤ zn Z) (hl : 42 ≤ zl Z) {n : Nat} {rec26 : Nat → Int32 → PM → qO} (hrec26 : ∀ (l0 : Nat) (l1 : Int32) (M : PM), rec26 l0 l1 M = some (zr Z, zf Z) → EW Y_XModel_gather g X Z 26 [(0, .ref l0), (1, .int l1)] [] M) {l0 : Nat} {l1 : Int32} {M : PM} (h : F_XModel_gather_67 n rec26 l0 l1 M = some (zr Z, zf Z)) : EW Y_XModel_gather g X Z 67 [(0, .ref l0), (1, .int l1)] [] M := by
  unfold F_XModel_gather_67 at h
  refine ew_iconst (0) d_XModel_gather_67 (by decide) ?_
  exact E_XModel_gather_68 hn hl hrec26 h
def F_XModel_gather_63 (n : Nat) (rec26 : Nat → Int32 → PM → qO) (l0 : Nat) (l1 : Int32) (M : PM) : qO :=
  F_XModel_gather_68 n rec26 l0 l1 (1 : Int32) M
set_option maxHeartbeats 4000000 in
set_option maxRecDepth 100000 in
theorem E_XModel_gather_63 {g : qG} {X : qX} {Z : qZ} (hn : 2 ≤ zn Z) (hl : 42 ≤ zl Z) {n : Nat} {rec26 : Nat → Int32 → PM → qO} (hrec26 : ∀ (l0 : Nat) (l1 : Int32) (M : PM), rec26 l0 l1 M = some (zr Z, zf Z) → EW Y_XModel_gather g X Z 26 [(0, .ref l0), (1, .int l1)] [] M) {l0 : Nat} {l1 : Int32} {M : PM} (h : F_XModel_gather_63 n rec26 l0 l1 M = some (zr Z, zf Z)) : EW Y_XModel_gather g X Z 63 [(0, .ref l0), (1, .int l1)] [] M := by
  unfold F_XModel_gather_63 at h
  refine ew_iconst (1) d_XModel_gather_63 (by decide) ?_
  refine ew_goto 68 d_XModel_gather_64 (by decide) ?_
  exact E_XModel_gather_68 hn hl hrec26 h
def F_XModel_gather_164 (n : Nat) (M : PM) : qO :=
  some (.inl none, M)
set_option maxHeartbeats 4000000 in
set_option maxRecDepth 100000 in
theorem E_XModel_gather_164 {g : qG} {X : qX} {Z : qZ} (hn : 2 ≤ zn Z) (hl : 42 ≤ zl Z) {n : Nat} {M : PM} (h : F_XModel_gather_164 n M = some (zr Z, zf Z)) : EW Y_XModel_gather g X Z 164 [] [] M := by
  unfold F_XModel_gather_164 at h
  obtain ⟨hz, hm⟩ := Prod.mk.inj (Option.some.inj h)
  exact ew_return d_XModel_gather_164 rfl hz.symm hm.symm
def F_XModel_gather_253 (n : Nat) (rec167 : Nat → Int32 → PM → qO) (l0 : Nat) (l1 : Int32) (M : PM) : qO :=
  bI (l1 + (1 : Int32)) (fun v1 =>
  rec167 l0 v1 M)
set_option maxHeartbeats 4000000 in
set_option maxRecDepth 100000 in
theorem E_XModel_gather_253 {g : qG} {X : qX} {Z : qZ} (hn : 2 ≤ zn Z) (hl : 42 ≤ zl Z) {n : Nat} {rec167 : Nat → Int32 → PM → qO} (hrec167 : ∀ (l0 : Nat) (l1 : Int32) (M : PM), rec167 l0 l1 M = some (zr Z, zf Z) → EW Y_XModel_gather g X Z 167 [(0, .ref l0), (1, .int l1)] [] M) {l0 : Nat} {l1 : Int32} {M : PM} (h : F_XModel_gather_253 n rec167 l0 l1 M = some (zr Z, zf Z)) : EW Y_XModel_gather g X Z 253 [(0, .ref l0), (1, .int l1)] [] M := by
  unfold F_XModel_gather_253 at h
  obtain ⟨v1, ev1, h⟩ := bI_inv h
  refine ew_iinc (L' := [(0, .ref l0), (1, .int v1)]) v1 [1, 0] d_XModel_gather_253 rfl (by rw [ev1]; rfl) (by decide) rfl ?_
  refine ew_goto 167 d_XModel_gather_256 (by decide) ?_
  exact hrec167 l0 v1 M h
def F_XModel_gather_214 (n : Nat) (rec167 : Nat → Int32 → PM → qO) (l0 : Nat) (l1 : Int32) (M : PM) : qO :=
  gR 0 M l0 21 (fun v1 =>
  lZ M v1 l1 (fun v2 =>
  if v2 = (0 : Int32) then
    F_XModel_gather_253 n rec167 l0 l1 M
  else
    gR 0 M l0 3 (fun v4 =>
    lI M v4 l1 (fun v5 =>
    if v5 = (4 : Int32) then
      gR 0 M l0 28 (fun v7 =>
      gI 0 M l0 25 (fun v8 =>
      wI M v7 v8 l1 (fun M9 =>
      gI 0 M9 l0 25 (fun v10 =>
      pF 0 M9 l0 25 (.int (v10 + (1 : Int32))) (fun M11 =>
      F_XModel_gather_253 n rec167 l0 l1 M11)))))
    else
      F_XModel_gather_253 n rec167 l0 l1 M))))
set_option maxHeartbeats 4000000 in
set_option maxRecDepth 100000 in
theorem E_XModel_gather_214 {g : qG} {X : qX} {Z : qZ} (hn : 2 ≤ zn Z) (hl : 42 ≤ zl Z) {n : Nat} {rec167 : Nat → Int32 → PM → qO} (hrec167 : ∀ (l0 : Nat) (l1 : Int32) (M : PM), rec167 l0 l1 M = some (zr Z, zf Z) → EW Y_XModel_gather g X Z 167 [(0, .ref l0), (1, .int l1)] [] M) {l0 : Nat} {l1 : Int32} {M : PM} (h : F_XModel_gather_214 n rec167 l0 l1 M = some (zr Z, zf Z)) : EW Y_XModel_gather g X Z 214 [(0, .ref l0), (1, .int l1)] [] M := by
  unfold F_XModel_gather_214 at h
  refine ew_aload_n 0 d_XModel_gather_214 rfl rfl ?_
  obtain ⟨v1, av1, bv1, h⟩ := gR_inv h
  refine ew_gR 0 21 d_XModel_gather_215 fl_XModel_63 av1 bv1 ?_
  refine ew_iload_n 1 d_XModel_gather_218 rfl rfl ?_
  obtain ⟨v2, av2, bv2, cv2, ev2, h⟩ := lZ_inv h
  refine ew_lZ d_XModel_gather_219 av2 bv2 cv2 ev2 ?_
  refine ew_if_eq 253 d_XModel_gather_220 (by decide) (fun c3 => ?_) (fun c3 => ?_)
  · rw [if_pos c3] at h
    exact E_XModel_gather_253 hn hl hrec167 h
  · rw [if_neg c3] at h
    refine ew_aload_n 0 d_XModel_gather_223 rfl rfl ?_
    obtain ⟨v4, av4, bv4, h⟩ := gR_inv h
    refine ew_gR 0 3 d_XModel_gather_224 fl_XModel_13 av4 bv4 ?_
    refine ew_iload_n 1 d_XModel_gather_227 rfl rfl ?_
    obtain ⟨v5, av5, bv5, cv5, ev5, h⟩ := lI_inv h
    refine ew_lI d_XModel_gather_228 av5 bv5 cv5 ev5 ?_
    refine ew_iconst (4) d_XModel_gather_229 (by decide) ?_
    refine ew_icmp_ne 253 d_XModel_gather_230 (by decide) (fun c6 => ?_) (fun c6 => ?_)
    · rw [if_neg c6] at h
      exact E_XModel_gather_253 hn hl hrec167 h
    · rw [if_pos c6] at h
      refine ew_aload_n 0 d_XModel_gather_233 rfl rfl ?_
      obtain ⟨v7, av7, bv7, h⟩ := gR_inv h
      refine ew_gR 0 28 d_XModel_gather_234 fl_XModel_75 av7 bv7 ?_
      refine ew_aload_n 0 d_XModel_gather_237 rfl rfl ?_
      obtain ⟨v8, av8, bv8, h⟩ := gI_inv h
      refine ew_gI 0 25 d_XModel_gather_238 fl_XModel_167 av8 bv8 ?_
      refine ew_iload_n 1 d_XModel_gather_241 rfl rfl ?_
      obtain ⟨M9, aM9, bM9, cM9, eM9, h⟩ := wI_inv h
      refine ew_wI d_XModel_gather_242 aM9 bM9 cM9 eM9 ?_
      refine ew_aload_n 0 d_XModel_gather_243 rfl rfl ?_
      refine ew_dup d_XModel_gather_244 rfl ?_
      obtain ⟨v10, av10, bv10, h⟩ := gI_inv h
      refine ew_gI 0 25 d_XModel_gather_245 fl_XModel_167 av10 bv10 ?_
      refine ew_iconst (1) d_XModel_gather_248 (by decide) ?_
      refine ew_iadd d_XModel_gather_249 ?_
      obtain ⟨M11, aM11, eM11, h⟩ := pF_inv h
      refine ew_pF 0 25 d_XModel_gather_250 fl_XModel_167 aM11 eM11 (fun ad => ⟨rfl, rfl⟩) ?_
      exact E_XModel_gather_253 hn hl hrec167 h
def F_XModel_gather_347 (n : Nat) (rec295 : Nat → Int32 → PM → qO) (l0 : Nat) (l1 : Int32) (M : PM) : qO :=
  bI (l1 + (1 : Int32)) (fun v1 =>
  rec295 l0 v1 M)
set_option maxHeartbeats 4000000 in
set_option maxRecDepth 100000 in
theorem E_XModel_gather_347 {g : qG} {X : qX} {Z : qZ} (hn : 2 ≤ zn Z) (hl : 42 ≤ zl Z) {n : Nat} {rec295 : Nat → Int32 → PM → qO} (hrec295 : ∀ (l0 : Nat) (l1 : Int32) (M : PM), rec295 l0 l1 M = some (zr Z, zf Z) → EW Y_XModel_gather g X Z 295 [(0, .ref l0), (1, .int l1)] [] M) {l0 : Nat} {l1 : Int32} {M : PM} (h : F_XModel_gather_347 n rec295 l0 l1 M = some (zr Z, zf Z)) : EW Y_XModel_gather g X Z 347 [(0, .ref l0), (1, .int l1)] [] M := by
  unfold F_XModel_gather_347 at h
  obtain ⟨v1, ev1, h⟩ := bI_inv h
  refine ew_iinc (L' := [(0, .ref l0), (1, .int v1)]) v1 [1, 0] d_XModel_gather_347 rfl (by rw [ev1]; rfl) (by decide) rfl ?_
  refine ew_goto 295 d_XModel_gather_350 (by decide) ?_
  exact hrec295 l0 v1 M h
def F_XModel_gather_295 (n : Nat) : Nat → Nat → Int32 → PM → qO
  | 0, _, _, _ => none
  | f + 1, l0, l1, M =>
    gI 0 M l0 2 (fun v1 =>
    if v1 ≤ l1 then
      some (.inl none, M)
    else
      gR 0 M l0 21 (fun v3 =>
      lZ M v3 l1 (fun v4 =>
      if v4 = (0 : Int32) then
        F_XModel_gather_347 n (F_XModel_gather_295 n f) l0 l1 M
      else
        gR 0 M l0 3 (fun v6 =>
        lI M v6 l1 (fun v7 =>
        if v7 = (5 : Int32) then
          gR 0 M l0 26 (fun v9 =>
          gI 0 M l0 23 (fun v10 =>
          gI 0 M l0 24 (fun v11 =>
          wI M v9 (v10 + v11) l1 (fun M12 =>
          gI 0 M12 l0 24 (fun v13 =>
          pF 0 M12 l0 24 (.int (v13 + (1 : Int32))) (fun M14 =>
          F_XModel_gather_347 n (F_XModel_gather_295 n f) l0 l1 M14))))))
        else
          F_XModel_gather_347 n (F_XModel_gather_295 n f) l0 l1 M)))))
set_option maxHeartbeats 4000000 in
set_option maxRecDepth 100000 in
theorem E_XModel_gather_295 {g : qG} {X : qX} {Z : qZ} (hn : 2 ≤ zn Z) (hl : 42 ≤ zl Z) {n : Nat} : ∀ (f : Nat) (l0 : Nat) (l1 : Int32) (M : PM), F_XModel_gather_295 n f l0 l1 M = some (zr Z, zf Z) → EW Y_XModel_gather g X Z 295 [(0, .ref l0), (1, .int l1)] [] M := by
  intro f
  induction f with
  | zero => intro l0 l1 M h; rw [F_XModel_gather_295] at h; cases h
  | succ f ih =>
    intro l0 l1 M h
    rw [F_XModel_gather_295] at h
    refine ew_iload_n 1 d_XModel_gather_295 rfl rfl ?_
    refine ew_aload_n 0 d_XModel_gather_296 rfl rfl ?_
    obtain ⟨v1, av1, bv1, h⟩ := gI_inv h
    refine ew_gI 0 2 d_XModel_gather_297 fl_XModel_81 av1 bv1 ?_
    refine ew_icmp_ge 353 d_XModel_gather_300 (by decide) (fun c2 => ?_) (fun c2 => ?_)
    · rw [if_pos c2] at h
      obtain ⟨hz, hm⟩ := Prod.mk.inj (Option.some.inj h)
      exact ew_return d_XModel_gather_353 rfl hz.symm hm.symm
    · rw [if_neg c2] at h
      refine ew_aload_n 0 d_XModel_gather_303 rfl rfl ?_
      obtain ⟨v3, av3, bv3, h⟩ := gR_inv h
      refine ew_gR 0 21 d_XModel_gather_304 fl_XModel_63 av3 bv3 ?_
      refine ew_iload_n 1 d_XModel_gather_307 rfl rfl ?_
      obtain ⟨v4, av4, bv4, cv4, ev4, h⟩ := lZ_inv h
      refine ew_lZ d_XModel_gather_308 av4 bv4 cv4 ev4 ?_
      refine ew_if_eq 347 d_XModel_gather_309 (by decide) (fun c5 => ?_) (fun c5 => ?_)
      · rw [if_pos c5] at h
        exact E_XModel_gather_347 hn hl ih h
      · rw [if_neg c5] at h
        refine ew_aload_n 0 d_XModel_gather_312 rfl rfl ?_
        obtain ⟨v6, av6, bv6, h⟩ := gR_inv h
        refine ew_gR 0 3 d_XModel_gather_313 fl_XModel_13 av6 bv6 ?_
        refine ew_iload_n 1 d_XModel_gather_316 rfl rfl ?_
        obtain ⟨v7, av7, bv7, cv7, ev7, h⟩ := lI_inv h
        refine ew_lI d_XModel_gather_317 av7 bv7 cv7 ev7 ?_
        refine ew_iconst (5) d_XModel_gather_318 (by decide) ?_
        refine ew_icmp_ne 347 d_XModel_gather_319 (by decide) (fun c8 => ?_) (fun c8 => ?_)
        · rw [if_neg c8] at h
          exact E_XModel_gather_347 hn hl ih h
        · rw [if_pos c8] at h
          refine ew_aload_n 0 d_XModel_gather_322 rfl rfl ?_
          obtain ⟨v9, av9, bv9, h⟩ := gR_inv h
          refine ew_gR 0 26 d_XModel_gather_323 fl_XModel_69 av9 bv9 ?_
          refine ew_aload_n 0 d_XModel_gather_326 rfl rfl ?_
          obtain ⟨v10, av10, bv10, h⟩ := gI_inv h
          refine ew_gI 0 23 d_XModel_gather_327 fl_XModel_164 av10 bv10 ?_
          refine ew_aload_n 0 d_XModel_gather_330 rfl rfl ?_
          obtain ⟨v11, av11, bv11, h⟩ := gI_inv h
          refine ew_gI 0 24 d_XModel_gather_331 fl_XModel_176 av11 bv11 ?_
          refine ew_iadd d_XModel_gather_334 ?_
          refine ew_iload_n 1 d_XModel_gather_335 rfl rfl ?_
          obtain ⟨M12, aM12, bM12, cM12, eM12, h⟩ := wI_inv h
          refine ew_wI d_XModel_gather_336 aM12 bM12 cM12 eM12 ?_
          refine ew_aload_n 0 d_XModel_gather_337 rfl rfl ?_
          refine ew_dup d_XModel_gather_338 rfl ?_
          obtain ⟨v13, av13, bv13, h⟩ := gI_inv h
          refine ew_gI 0 24 d_XModel_gather_339 fl_XModel_176 av13 bv13 ?_
          refine ew_iconst (1) d_XModel_gather_342 (by decide) ?_
          refine ew_iadd d_XModel_gather_343 ?_
          obtain ⟨M14, aM14, eM14, h⟩ := pF_inv h
          refine ew_pF 0 24 d_XModel_gather_344 fl_XModel_176 aM14 eM14 (fun ad => ⟨rfl, rfl⟩) ?_
          exact E_XModel_gather_347 hn hl ih h
def F_XModel_gather_288 (n : Nat) (l0 : Nat) (M : PM) : qO :=
  pF 0 M l0 24 (.int (0 : Int32)) (fun M1 =>
  F_XModel_gather_295 n n l0 (0 : Int32) M1)
set_option maxHeartbeats 4000000 in
set_option maxRecDepth 100000 in
theorem E_XModel_gather_288 {g : qG} {X : qX} {Z : qZ} (hn : 2 ≤ zn Z) (hl : 42 ≤ zl Z) {n : Nat} {l0 : Nat} {M : PM} (h : F_XModel_gather_288 n l0 M = some (zr Z, zf Z)) : EW Y_XModel_gather g X Z 288 [(0, .ref l0)] [] M := by
  unfold F_XModel_gather_288 at h
  refine ew_aload_n 0 d_XModel_gather_288 rfl rfl ?_
  refine ew_iconst (0) d_XModel_gather_289 (by decide) ?_
  obtain ⟨M1, aM1, eM1, h⟩ := pF_inv h
  refine ew_pF 0 24 d_XModel_gather_290 fl_XModel_176 aM1 eM1 (fun ad => ⟨rfl, rfl⟩) ?_
  refine ew_iconst (0) d_XModel_gather_293 (by decide) ?_
  refine ew_istore_n (L' := [(0, .ref l0), (1, .int (0 : Int32))]) 1 [1, 0] d_XModel_gather_294 rfl (by decide) rfl ?_
  exact E_XModel_gather_295 hn hl n l0 (0 : Int32) M1 h
def F_XModel_gather_167 (n : Nat) : Nat → Nat → Int32 → PM → qO
  | 0, _, _, _ => none
  | f + 1, l0, l1, M =>
    gI 0 M l0 2 (fun v1 =>
    if v1 ≤ l1 then
      gR 0 M l0 21 (fun v3 =>
      lZ M v3 (2 : Int32) (fun v4 =>
      if v4 = (0 : Int32) then
        F_XModel_gather_288 n l0 M
      else
        gR 0 M l0 28 (fun v6 =>
        gI 0 M l0 25 (fun v7 =>
        wI M v6 v7 (2 : Int32) (fun M8 =>
        gI 0 M8 l0 25 (fun v9 =>
        pF 0 M8 l0 25 (.int (v9 + (1 : Int32))) (fun M10 =>
        F_XModel_gather_288 n l0 M10)))))))
    else
      gR 0 M l0 21 (fun v11 =>
      lZ M v11 l1 (fun v12 =>
      if v12 = (0 : Int32) then
        F_XModel_gather_214 n (F_XModel_gather_167 n f) l0 l1 M
      else
        gR 0 M l0 3 (fun v14 =>
        lI M v14 l1 (fun v15 =>
        if v15 = (3 : Int32) then
          gR 0 M l0 26 (fun v17 =>
          gI 0 M l0 23 (fun v18 =>
          wI M v17 v18 l1 (fun M19 =>
          gI 0 M19 l0 23 (fun v20 =>
          pF 0 M19 l0 23 (.int (v20 + (1 : Int32))) (fun M21 =>
          F_XModel_gather_214 n (F_XModel_gather_167 n f) l0 l1 M21)))))
        else
          F_XModel_gather_214 n (F_XModel_gather_167 n f) l0 l1 M)))))
set_option maxHeartbeats 4000000 in
set_option maxRecDepth 100000 in
theorem E_XModel_gather_167 {g : qG} {X : qX} {Z : qZ} (hn : 2 ≤ zn Z) (hl : 42 ≤ zl Z) {n : Nat} : ∀ (f : Nat) (l0 : Nat) (l1 : Int32) (M : PM), F_XModel_gather_167 n f l0 l1 M = some (zr Z, zf Z) → EW Y_XModel_gather g X Z 167 [(0, .ref l0), (1, .int l1)] [] M := by
  intro f
  induction f with
  | zero => intro l0 l1 M h; rw [F_XModel_gather_167] at h; cases h
  | succ f ih =>
    intro l0 l1 M h
    rw [F_XModel_gather_167] at h
    refine ew_iload_n 1 d_XModel_gather_167 rfl rfl ?_
    refine ew_aload_n 0 d_XModel_gather_168 rfl rfl ?_
    obtain ⟨v1, av1, bv1, h⟩ := gI_inv h
    refine ew_gI 0 2 d_XModel_gather_169 fl_XModel_81 av1 bv1 ?_
    refine ew_icmp_ge 259 d_XModel_gather_172 (by decide) (fun c2 => ?_) (fun c2 => ?_)
    · rw [if_pos c2] at h
      refine ew_aload_n 0 d_XModel_gather_259 rfl rfl ?_
      obtain ⟨v3, av3, bv3, h⟩ := gR_inv h
      refine ew_gR 0 21 d_XModel_gather_260 fl_XModel_63 av3 bv3 ?_
      refine ew_iconst (2) d_XModel_gather_263 (by decide) ?_
      obtain ⟨v4, av4, bv4, cv4, ev4, h⟩ := lZ_inv h
      refine ew_lZ d_XModel_gather_264 av4 bv4 cv4 ev4 ?_
      refine ew_if_eq 288 d_XModel_gather_265 (by decide) (fun c5 => ?_) (fun c5 => ?_)
      · rw [if_pos c5] at h
        exact ew_pick (L' := [(0, .ref l0)]) [0] rfl (E_XModel_gather_288 hn hl h)
      · rw [if_neg c5] at h
        refine ew_aload_n 0 d_XModel_gather_268 rfl rfl ?_
        obtain ⟨v6, av6, bv6, h⟩ := gR_inv h
        refine ew_gR 0 28 d_XModel_gather_269 fl_XModel_75 av6 bv6 ?_
        refine ew_aload_n 0 d_XModel_gather_272 rfl rfl ?_
        obtain ⟨v7, av7, bv7, h⟩ := gI_inv h
        refine ew_gI 0 25 d_XModel_gather_273 fl_XModel_167 av7 bv7 ?_
        refine ew_iconst (2) d_XModel_gather_276 (by decide) ?_
        obtain ⟨M8, aM8, bM8, cM8, eM8, h⟩ := wI_inv h
        refine ew_wI d_XModel_gather_277 aM8 bM8 cM8 eM8 ?_
        refine ew_aload_n 0 d_XModel_gather_278 rfl rfl ?_
        refine ew_dup d_XModel_gather_279 rfl ?_
        obtain ⟨v9, av9, bv9, h⟩ := gI_inv h
        refine ew_gI 0 25 d_XModel_gather_280 fl_XModel_167 av9 bv9 ?_
        refine ew_iconst (1) d_XModel_gather_283 (by decide) ?_
        refine ew_iadd d_XModel_gather_284 ?_
        obtain ⟨M10, aM10, eM10, h⟩ := pF_inv h
        refine ew_pF 0 25 d_XModel_gather_285 fl_XModel_167 aM10 eM10 (fun ad => ⟨rfl, rfl⟩) ?_
        exact ew_pick (L' := [(0, .ref l0)]) [0] rfl (E_XModel_gather_288 hn hl h)
    · rw [if_neg c2] at h
      refine ew_aload_n 0 d_XModel_gather_175 rfl rfl ?_
      obtain ⟨v11, av11, bv11, h⟩ := gR_inv h
      refine ew_gR 0 21 d_XModel_gather_176 fl_XModel_63 av11 bv11 ?_
      refine ew_iload_n 1 d_XModel_gather_179 rfl rfl ?_
      obtain ⟨v12, av12, bv12, cv12, ev12, h⟩ := lZ_inv h
      refine ew_lZ d_XModel_gather_180 av12 bv12 cv12 ev12 ?_
      refine ew_if_eq 214 d_XModel_gather_181 (by decide) (fun c13 => ?_) (fun c13 => ?_)
      · rw [if_pos c13] at h
        exact E_XModel_gather_214 hn hl ih h
      · rw [if_neg c13] at h
        refine ew_aload_n 0 d_XModel_gather_184 rfl rfl ?_
        obtain ⟨v14, av14, bv14, h⟩ := gR_inv h
        refine ew_gR 0 3 d_XModel_gather_185 fl_XModel_13 av14 bv14 ?_
        refine ew_iload_n 1 d_XModel_gather_188 rfl rfl ?_
        obtain ⟨v15, av15, bv15, cv15, ev15, h⟩ := lI_inv h
        refine ew_lI d_XModel_gather_189 av15 bv15 cv15 ev15 ?_
        refine ew_iconst (3) d_XModel_gather_190 (by decide) ?_
        refine ew_icmp_ne 214 d_XModel_gather_191 (by decide) (fun c16 => ?_) (fun c16 => ?_)
        · rw [if_neg c16] at h
          exact E_XModel_gather_214 hn hl ih h
        · rw [if_pos c16] at h
          refine ew_aload_n 0 d_XModel_gather_194 rfl rfl ?_
          obtain ⟨v17, av17, bv17, h⟩ := gR_inv h
          refine ew_gR 0 26 d_XModel_gather_195 fl_XModel_69 av17 bv17 ?_
          refine ew_aload_n 0 d_XModel_gather_198 rfl rfl ?_
          obtain ⟨v18, av18, bv18, h⟩ := gI_inv h
          refine ew_gI 0 23 d_XModel_gather_199 fl_XModel_164 av18 bv18 ?_
          refine ew_iload_n 1 d_XModel_gather_202 rfl rfl ?_
          obtain ⟨M19, aM19, bM19, cM19, eM19, h⟩ := wI_inv h
          refine ew_wI d_XModel_gather_203 aM19 bM19 cM19 eM19 ?_
          refine ew_aload_n 0 d_XModel_gather_204 rfl rfl ?_
          refine ew_dup d_XModel_gather_205 rfl ?_
          obtain ⟨v20, av20, bv20, h⟩ := gI_inv h
          refine ew_gI 0 23 d_XModel_gather_206 fl_XModel_164 av20 bv20 ?_
          refine ew_iconst (1) d_XModel_gather_209 (by decide) ?_
          refine ew_iadd d_XModel_gather_210 ?_
          obtain ⟨M21, aM21, eM21, h⟩ := pF_inv h
          refine ew_pF 0 23 d_XModel_gather_211 fl_XModel_164 aM21 eM21 (fun ad => ⟨rfl, rfl⟩) ?_
          exact E_XModel_gather_214 hn hl ih h
def F_XModel_gather_26 (n : Nat) : Nat → Nat → Int32 → PM → qO
  | 0, _, _, _ => none
  | f + 1, l0, l1, M =>
    gI 0 M l0 2 (fun v1 =>
    if v1 ≤ l1 then
      gI 0 M l0 29 (fun v3 =>
      if (7 : Int32) < v3 then
        F_XModel_gather_164 n M
      else
        gI 0 M l0 30 (fun v5 =>
        if v5 ≤ (6 : Int32) then
          F_XModel_gather_167 n n l0 (0 : Int32) M
        else
          F_XModel_gather_164 n M))
    else
      gR 0 M l0 21 (fun v7 =>
      lZ M v7 l1 (fun v8 =>
      if v8 = (0 : Int32) then
        F_XModel_gather_67 n (F_XModel_gather_26 n f) l0 l1 M
      else
        gR 0 M l0 3 (fun v10 =>
        lI M v10 l1 (fun v11 =>
        if v11 = (3 : Int32) then
          F_XModel_gather_63 n (F_XModel_gather_26 n f) l0 l1 M
        else
          gR 0 M l0 3 (fun v13 =>
          lI M v13 l1 (fun v14 =>
          if v14 = (5 : Int32) then
            F_XModel_gather_63 n (F_XModel_gather_26 n f) l0 l1 M
          else
            F_XModel_gather_67 n (F_XModel_gather_26 n f) l0 l1 M)))))))
set_option maxHeartbeats 4000000 in
set_option maxRecDepth 100000 in
theorem E_XModel_gather_26 {g : qG} {X : qX} {Z : qZ} (hn : 2 ≤ zn Z) (hl : 42 ≤ zl Z) {n : Nat} : ∀ (f : Nat) (l0 : Nat) (l1 : Int32) (M : PM), F_XModel_gather_26 n f l0 l1 M = some (zr Z, zf Z) → EW Y_XModel_gather g X Z 26 [(0, .ref l0), (1, .int l1)] [] M := by
  intro f
  induction f with
  | zero => intro l0 l1 M h; rw [F_XModel_gather_26] at h; cases h
  | succ f ih =>
    intro l0 l1 M h
    rw [F_XModel_gather_26] at h
    refine ew_iload_n 1 d_XModel_gather_26 rfl rfl ?_
    refine ew_aload_n 0 d_XModel_gather_27 rfl rfl ?_
    obtain ⟨v1, av1, bv1, h⟩ := gI_inv h
    refine ew_gI 0 2 d_XModel_gather_28 fl_XModel_81 av1 bv1 ?_
    refine ew_icmp_ge 146 d_XModel_gather_31 (by decide) (fun c2 => ?_) (fun c2 => ?_)
    · rw [if_pos c2] at h
      refine ew_aload_n 0 d_XModel_gather_146 rfl rfl ?_
      obtain ⟨v3, av3, bv3, h⟩ := gI_inv h
      refine ew_gI 0 29 d_XModel_gather_147 fl_XModel_170 av3 bv3 ?_
      refine ew_bipush (7) d_XModel_gather_150 (by decide +kernel) ?_
      refine ew_icmp_gt 164 d_XModel_gather_152 (by decide) (fun c4 => ?_) (fun c4 => ?_)
      · rw [if_pos c4] at h
        exact ew_pick (L' := []) [] rfl (E_XModel_gather_164 hn hl h)
      · rw [if_neg c4] at h
        refine ew_aload_n 0 d_XModel_gather_155 rfl rfl ?_
        obtain ⟨v5, av5, bv5, h⟩ := gI_inv h
        refine ew_gI 0 30 d_XModel_gather_156 fl_XModel_173 av5 bv5 ?_
        refine ew_bipush (6) d_XModel_gather_159 (by decide +kernel) ?_
        refine ew_icmp_le 165 d_XModel_gather_161 (by decide) (fun c6 => ?_) (fun c6 => ?_)
        · rw [if_pos c6] at h
          refine ew_iconst (0) d_XModel_gather_165 (by decide) ?_
          refine ew_istore_n (L' := [(0, .ref l0), (1, .int (0 : Int32))]) 1 [1, 0] d_XModel_gather_166 rfl (by decide) rfl ?_
          exact E_XModel_gather_167 hn hl n l0 (0 : Int32) M h
        · rw [if_neg c6] at h
          exact ew_pick (L' := []) [] rfl (E_XModel_gather_164 hn hl h)
    · rw [if_neg c2] at h
      refine ew_aload_n 0 d_XModel_gather_34 rfl rfl ?_
      obtain ⟨v7, av7, bv7, h⟩ := gR_inv h
      refine ew_gR 0 21 d_XModel_gather_35 fl_XModel_63 av7 bv7 ?_
      refine ew_iload_n 1 d_XModel_gather_38 rfl rfl ?_
      obtain ⟨v8, av8, bv8, cv8, ev8, h⟩ := lZ_inv h
      refine ew_lZ d_XModel_gather_39 av8 bv8 cv8 ev8 ?_
      refine ew_if_eq 67 d_XModel_gather_40 (by decide) (fun c9 => ?_) (fun c9 => ?_)
      · rw [if_pos c9] at h
        exact E_XModel_gather_67 hn hl ih h
      · rw [if_neg c9] at h
        refine ew_aload_n 0 d_XModel_gather_43 rfl rfl ?_
        obtain ⟨v10, av10, bv10, h⟩ := gR_inv h
        refine ew_gR 0 3 d_XModel_gather_44 fl_XModel_13 av10 bv10 ?_
        refine ew_iload_n 1 d_XModel_gather_47 rfl rfl ?_
        obtain ⟨v11, av11, bv11, cv11, ev11, h⟩ := lI_inv h
        refine ew_lI d_XModel_gather_48 av11 bv11 cv11 ev11 ?_
        refine ew_iconst (3) d_XModel_gather_49 (by decide) ?_
        refine ew_icmp_eq 63 d_XModel_gather_50 (by decide) (fun c12 => ?_) (fun c12 => ?_)
        · rw [if_pos c12] at h
          exact E_XModel_gather_63 hn hl ih h
        · rw [if_neg c12] at h
          refine ew_aload_n 0 d_XModel_gather_53 rfl rfl ?_
          obtain ⟨v13, av13, bv13, h⟩ := gR_inv h
          refine ew_gR 0 3 d_XModel_gather_54 fl_XModel_13 av13 bv13 ?_
          refine ew_iload_n 1 d_XModel_gather_57 rfl rfl ?_
          obtain ⟨v14, av14, bv14, cv14, ev14, h⟩ := lI_inv h
          refine ew_lI d_XModel_gather_58 av14 bv14 cv14 ev14 ?_
          refine ew_iconst (5) d_XModel_gather_59 (by decide) ?_
          refine ew_icmp_ne 67 d_XModel_gather_60 (by decide) (fun c15 => ?_) (fun c15 => ?_)
          · rw [if_neg c15] at h
            exact E_XModel_gather_67 hn hl ih h
          · rw [if_pos c15] at h
            exact E_XModel_gather_63 hn hl ih h
def F_XModel_gather (n : Nat) (l0 : Nat) (M : PM) : qO :=
  kO 0 M l0 (
  cV (F_XModel_markParts n l0 M) (fun M1 =>
  pF 0 M1 l0 23 (.int (0 : Int32)) (fun M2 =>
  pF 0 M2 l0 25 (.int (0 : Int32)) (fun M3 =>
  pF 0 M3 l0 29 (.int (0 : Int32)) (fun M4 =>
  pF 0 M4 l0 30 (.int (0 : Int32)) (fun M5 =>
  F_XModel_gather_26 n n l0 (0 : Int32) M5))))))
set_option maxHeartbeats 4000000 in
set_option maxRecDepth 100000 in
theorem E_XModel_gather {g : qG} {X : qX} {Z : qZ} (hn : 2 ≤ zn Z) (hl : 42 ≤ zl Z) {n : Nat} {l0 : Nat} {M : PM} (h : F_XModel_gather n l0 M = some (zr Z, zf Z)) : EW Y_XModel_gather g X Z 0 [(0, .ref l0)] [] M := by
  unfold F_XModel_gather at h
  refine ew_aload_n 0 d_XModel_gather_0 rfl rfl ?_
  obtain ⟨kM1, h⟩ := kO_inv h
  obtain ⟨M1, hM1, h⟩ := cV_inv h
  refine ew_callV 0 [] d_XModel_gather_1 cv_XModel_149 (T_XModel_markParts hM1) kM1 (Nat.le_trans (Nat.le_of_ble_eq_true rfl) hn) (Nat.le_trans (Nat.le_of_ble_eq_true rfl) hl) (Nat.le_of_ble_eq_true rfl) rfl rfl ?_
  refine ew_aload_n 0 d_XModel_gather_4 rfl rfl ?_
  refine ew_iconst (0) d_XModel_gather_5 (by decide) ?_
  obtain ⟨M2, aM2, eM2, h⟩ := pF_inv h
  refine ew_pF 0 23 d_XModel_gather_6 fl_XModel_164 aM2 eM2 (fun ad => ⟨rfl, rfl⟩) ?_
  refine ew_aload_n 0 d_XModel_gather_9 rfl rfl ?_
  refine ew_iconst (0) d_XModel_gather_10 (by decide) ?_
  obtain ⟨M3, aM3, eM3, h⟩ := pF_inv h
  refine ew_pF 0 25 d_XModel_gather_11 fl_XModel_167 aM3 eM3 (fun ad => ⟨rfl, rfl⟩) ?_
  refine ew_aload_n 0 d_XModel_gather_14 rfl rfl ?_
  refine ew_iconst (0) d_XModel_gather_15 (by decide) ?_
  obtain ⟨M4, aM4, eM4, h⟩ := pF_inv h
  refine ew_pF 0 29 d_XModel_gather_16 fl_XModel_170 aM4 eM4 (fun ad => ⟨rfl, rfl⟩) ?_
  refine ew_aload_n 0 d_XModel_gather_19 rfl rfl ?_
  refine ew_iconst (0) d_XModel_gather_20 (by decide) ?_
  obtain ⟨M5, aM5, eM5, h⟩ := pF_inv h
  refine ew_pF 0 30 d_XModel_gather_21 fl_XModel_173 aM5 eM5 (fun ad => ⟨rfl, rfl⟩) ?_
  refine ew_iconst (0) d_XModel_gather_24 (by decide) ?_
  refine ew_istore_n (L' := [(0, .ref l0), (1, .int (0 : Int32))]) 1 [1, 0] d_XModel_gather_25 rfl (by decide) rfl ?_
  exact E_XModel_gather_26 hn hl n l0 (0 : Int32) M5 h
theorem T_XModel_gather {n : Nat} {l0 : Nat} {M Mf : PM} {res : qRs} (h : F_XModel_gather n l0 M = some (res, Mf)) : CT Y_XModel_gather 2 42 [.ref l0] M res Mf :=
  CT_of (by decide) (Nat.le_of_ble_eq_true rfl) (qHd_ne (by decide)) (fun g X ad0 => E_XModel_gather (g := g) (X := X) (Z := (ad0, M, res, Mf, 2, 42)) (Nat.le_refl _) (Nat.le_refl _) h)
