theorem d_XSearch_arrange_0 : decode Y_XSearch_arrange.2.1 0 = .ok (.aload_n 0, 1) := by decide +kernel
theorem d_XSearch_arrange_1 : decode Y_XSearch_arrange.2.1 1 = .ok (.getfield 50, 3) := by decide +kernel
theorem d_XSearch_arrange_4 : decode Y_XSearch_arrange.2.1 4 = .ok (.iconst 0, 1) := by decide +kernel
theorem d_XSearch_arrange_5 : decode Y_XSearch_arrange.2.1 5 = .ok (.invokestatic 153, 3) := by decide +kernel
theorem d_XSearch_arrange_8 : decode Y_XSearch_arrange.2.1 8 = .ok (.iconst 0, 1) := by decide +kernel
theorem d_XSearch_arrange_9 : decode Y_XSearch_arrange.2.1 9 = .ok (.istore_n 2, 1) := by decide +kernel
theorem d_XSearch_arrange_10 : decode Y_XSearch_arrange.2.1 10 = .ok (.iload_n 2, 1) := by decide +kernel
theorem d_XSearch_arrange_11 : decode Y_XSearch_arrange.2.1 11 = .ok (.aload_n 0, 1) := by decide +kernel
theorem d_XSearch_arrange_12 : decode Y_XSearch_arrange.2.1 12 = .ok (.getfield 9, 3) := by decide +kernel
theorem d_XSearch_arrange_15 : decode Y_XSearch_arrange.2.1 15 = .ok (.getfield 118, 3) := by decide +kernel
theorem d_XSearch_arrange_18 : decode Y_XSearch_arrange.2.1 18 = .ok (.if_icmp .ge (43), 3) := by decide +kernel
theorem d_XSearch_arrange_21 : decode Y_XSearch_arrange.2.1 21 = .ok (.aload_n 1, 1) := by decide +kernel
theorem d_XSearch_arrange_22 : decode Y_XSearch_arrange.2.1 22 = .ok (.iload_n 2, 1) := by decide +kernel
theorem d_XSearch_arrange_23 : decode Y_XSearch_arrange.2.1 23 = .ok (.baload, 1) := by decide +kernel
theorem d_XSearch_arrange_24 : decode Y_XSearch_arrange.2.1 24 = .ok (.ifCond .eq (31), 3) := by decide +kernel
theorem d_XSearch_arrange_27 : decode Y_XSearch_arrange.2.1 27 = .ok (.aload_n 0, 1) := by decide +kernel
theorem d_XSearch_arrange_28 : decode Y_XSearch_arrange.2.1 28 = .ok (.getfield 9, 3) := by decide +kernel
theorem d_XSearch_arrange_31 : decode Y_XSearch_arrange.2.1 31 = .ok (.getfield 121, 3) := by decide +kernel
theorem d_XSearch_arrange_34 : decode Y_XSearch_arrange.2.1 34 = .ok (.iload_n 2, 1) := by decide +kernel
theorem d_XSearch_arrange_35 : decode Y_XSearch_arrange.2.1 35 = .ok (.iaload, 1) := by decide +kernel
theorem d_XSearch_arrange_36 : decode Y_XSearch_arrange.2.1 36 = .ok (.iconst 5, 1) := by decide +kernel
theorem d_XSearch_arrange_37 : decode Y_XSearch_arrange.2.1 37 = .ok (.if_icmp .le (18), 3) := by decide +kernel
theorem d_XSearch_arrange_40 : decode Y_XSearch_arrange.2.1 40 = .ok (.aload_n 0, 1) := by decide +kernel
theorem d_XSearch_arrange_41 : decode Y_XSearch_arrange.2.1 41 = .ok (.getfield 50, 3) := by decide +kernel
theorem d_XSearch_arrange_44 : decode Y_XSearch_arrange.2.1 44 = .ok (.aload_n 0, 1) := by decide +kernel
theorem d_XSearch_arrange_45 : decode Y_XSearch_arrange.2.1 45 = .ok (.getfield 44, 3) := by decide +kernel
theorem d_XSearch_arrange_48 : decode Y_XSearch_arrange.2.1 48 = .ok (.iload_n 2, 1) := by decide +kernel
theorem d_XSearch_arrange_49 : decode Y_XSearch_arrange.2.1 49 = .ok (.iaload, 1) := by decide +kernel
theorem d_XSearch_arrange_50 : decode Y_XSearch_arrange.2.1 50 = .ok (.dup2, 1) := by decide +kernel
theorem d_XSearch_arrange_51 : decode Y_XSearch_arrange.2.1 51 = .ok (.iaload, 1) := by decide +kernel
theorem d_XSearch_arrange_52 : decode Y_XSearch_arrange.2.1 52 = .ok (.iconst 1, 1) := by decide +kernel
theorem d_XSearch_arrange_53 : decode Y_XSearch_arrange.2.1 53 = .ok (.iadd, 1) := by decide +kernel
theorem d_XSearch_arrange_54 : decode Y_XSearch_arrange.2.1 54 = .ok (.iastore, 1) := by decide +kernel
theorem d_XSearch_arrange_55 : decode Y_XSearch_arrange.2.1 55 = .ok (.iinc 2 (1), 3) := by decide +kernel
theorem d_XSearch_arrange_58 : decode Y_XSearch_arrange.2.1 58 = .ok (.goto (-48), 3) := by decide +kernel
theorem d_XSearch_arrange_61 : decode Y_XSearch_arrange.2.1 61 = .ok (.iconst 1, 1) := by decide +kernel
theorem d_XSearch_arrange_62 : decode Y_XSearch_arrange.2.1 62 = .ok (.istore_n 2, 1) := by decide +kernel
theorem d_XSearch_arrange_63 : decode Y_XSearch_arrange.2.1 63 = .ok (.iload_n 2, 1) := by decide +kernel
theorem d_XSearch_arrange_64 : decode Y_XSearch_arrange.2.1 64 = .ok (.aload_n 0, 1) := by decide +kernel
theorem d_XSearch_arrange_65 : decode Y_XSearch_arrange.2.1 65 = .ok (.getfield 50, 3) := by decide +kernel
theorem d_XSearch_arrange_68 : decode Y_XSearch_arrange.2.1 68 = .ok (.arraylength, 1) := by decide +kernel
theorem d_XSearch_arrange_69 : decode Y_XSearch_arrange.2.1 69 = .ok (.if_icmp .ge (26), 3) := by decide +kernel
theorem d_XSearch_arrange_72 : decode Y_XSearch_arrange.2.1 72 = .ok (.aload_n 0, 1) := by decide +kernel
theorem d_XSearch_arrange_73 : decode Y_XSearch_arrange.2.1 73 = .ok (.getfield 50, 3) := by decide +kernel
theorem d_XSearch_arrange_76 : decode Y_XSearch_arrange.2.1 76 = .ok (.iload_n 2, 1) := by decide +kernel
theorem d_XSearch_arrange_77 : decode Y_XSearch_arrange.2.1 77 = .ok (.dup2, 1) := by decide +kernel
theorem d_XSearch_arrange_78 : decode Y_XSearch_arrange.2.1 78 = .ok (.iaload, 1) := by decide +kernel
theorem d_XSearch_arrange_79 : decode Y_XSearch_arrange.2.1 79 = .ok (.aload_n 0, 1) := by decide +kernel
theorem d_XSearch_arrange_80 : decode Y_XSearch_arrange.2.1 80 = .ok (.getfield 50, 3) := by decide +kernel
theorem d_XSearch_arrange_83 : decode Y_XSearch_arrange.2.1 83 = .ok (.iload_n 2, 1) := by decide +kernel
theorem d_XSearch_arrange_84 : decode Y_XSearch_arrange.2.1 84 = .ok (.iconst 1, 1) := by decide +kernel
theorem d_XSearch_arrange_85 : decode Y_XSearch_arrange.2.1 85 = .ok (.isub, 1) := by decide +kernel
theorem d_XSearch_arrange_86 : decode Y_XSearch_arrange.2.1 86 = .ok (.iaload, 1) := by decide +kernel
theorem d_XSearch_arrange_87 : decode Y_XSearch_arrange.2.1 87 = .ok (.iadd, 1) := by decide +kernel
theorem d_XSearch_arrange_88 : decode Y_XSearch_arrange.2.1 88 = .ok (.iastore, 1) := by decide +kernel
theorem d_XSearch_arrange_89 : decode Y_XSearch_arrange.2.1 89 = .ok (.iinc 2 (1), 3) := by decide +kernel
theorem d_XSearch_arrange_92 : decode Y_XSearch_arrange.2.1 92 = .ok (.goto (-29), 3) := by decide +kernel
theorem d_XSearch_arrange_95 : decode Y_XSearch_arrange.2.1 95 = .ok (.aload_n 0, 1) := by decide +kernel
theorem d_XSearch_arrange_96 : decode Y_XSearch_arrange.2.1 96 = .ok (.getfield 9, 3) := by decide +kernel
theorem d_XSearch_arrange_99 : decode Y_XSearch_arrange.2.1 99 = .ok (.getfield 118, 3) := by decide +kernel
theorem d_XSearch_arrange_102 : decode Y_XSearch_arrange.2.1 102 = .ok (.iconst 1, 1) := by decide +kernel
theorem d_XSearch_arrange_103 : decode Y_XSearch_arrange.2.1 103 = .ok (.isub, 1) := by decide +kernel
theorem d_XSearch_arrange_104 : decode Y_XSearch_arrange.2.1 104 = .ok (.istore_n 2, 1) := by decide +kernel
theorem d_XSearch_arrange_105 : decode Y_XSearch_arrange.2.1 105 = .ok (.iload_n 2, 1) := by decide +kernel
theorem d_XSearch_arrange_106 : decode Y_XSearch_arrange.2.1 106 = .ok (.ifCond .lt (60), 3) := by decide +kernel
theorem d_XSearch_arrange_109 : decode Y_XSearch_arrange.2.1 109 = .ok (.aload_n 1, 1) := by decide +kernel
theorem d_XSearch_arrange_110 : decode Y_XSearch_arrange.2.1 110 = .ok (.iload_n 2, 1) := by decide +kernel
theorem d_XSearch_arrange_111 : decode Y_XSearch_arrange.2.1 111 = .ok (.baload, 1) := by decide +kernel
theorem d_XSearch_arrange_112 : decode Y_XSearch_arrange.2.1 112 = .ok (.ifCond .eq (48), 3) := by decide +kernel
theorem d_XSearch_arrange_115 : decode Y_XSearch_arrange.2.1 115 = .ok (.aload_n 0, 1) := by decide +kernel
theorem d_XSearch_arrange_116 : decode Y_XSearch_arrange.2.1 116 = .ok (.getfield 9, 3) := by decide +kernel
theorem d_XSearch_arrange_119 : decode Y_XSearch_arrange.2.1 119 = .ok (.getfield 121, 3) := by decide +kernel
theorem d_XSearch_arrange_122 : decode Y_XSearch_arrange.2.1 122 = .ok (.iload_n 2, 1) := by decide +kernel
theorem d_XSearch_arrange_123 : decode Y_XSearch_arrange.2.1 123 = .ok (.iaload, 1) := by decide +kernel
theorem d_XSearch_arrange_124 : decode Y_XSearch_arrange.2.1 124 = .ok (.iconst 5, 1) := by decide +kernel
theorem d_XSearch_arrange_125 : decode Y_XSearch_arrange.2.1 125 = .ok (.if_icmp .le (35), 3) := by decide +kernel
theorem d_XSearch_arrange_128 : decode Y_XSearch_arrange.2.1 128 = .ok (.aload_n 0, 1) := by decide +kernel
theorem d_XSearch_arrange_129 : decode Y_XSearch_arrange.2.1 129 = .ok (.getfield 50, 3) := by decide +kernel
theorem d_XSearch_arrange_132 : decode Y_XSearch_arrange.2.1 132 = .ok (.aload_n 0, 1) := by decide +kernel
theorem d_XSearch_arrange_133 : decode Y_XSearch_arrange.2.1 133 = .ok (.getfield 44, 3) := by decide +kernel
theorem d_XSearch_arrange_136 : decode Y_XSearch_arrange.2.1 136 = .ok (.iload_n 2, 1) := by decide +kernel
theorem d_XSearch_arrange_137 : decode Y_XSearch_arrange.2.1 137 = .ok (.iaload, 1) := by decide +kernel
theorem d_XSearch_arrange_138 : decode Y_XSearch_arrange.2.1 138 = .ok (.dup2, 1) := by decide +kernel
theorem d_XSearch_arrange_139 : decode Y_XSearch_arrange.2.1 139 = .ok (.iaload, 1) := by decide +kernel
theorem d_XSearch_arrange_140 : decode Y_XSearch_arrange.2.1 140 = .ok (.iconst 1, 1) := by decide +kernel
theorem d_XSearch_arrange_141 : decode Y_XSearch_arrange.2.1 141 = .ok (.isub, 1) := by decide +kernel
theorem d_XSearch_arrange_142 : decode Y_XSearch_arrange.2.1 142 = .ok (.iastore, 1) := by decide +kernel
theorem d_XSearch_arrange_143 : decode Y_XSearch_arrange.2.1 143 = .ok (.aload_n 0, 1) := by decide +kernel
theorem d_XSearch_arrange_144 : decode Y_XSearch_arrange.2.1 144 = .ok (.getfield 47, 3) := by decide +kernel
theorem d_XSearch_arrange_147 : decode Y_XSearch_arrange.2.1 147 = .ok (.aload_n 0, 1) := by decide +kernel
theorem d_XSearch_arrange_148 : decode Y_XSearch_arrange.2.1 148 = .ok (.getfield 50, 3) := by decide +kernel
theorem d_XSearch_arrange_151 : decode Y_XSearch_arrange.2.1 151 = .ok (.aload_n 0, 1) := by decide +kernel
theorem d_XSearch_arrange_152 : decode Y_XSearch_arrange.2.1 152 = .ok (.getfield 44, 3) := by decide +kernel
theorem d_XSearch_arrange_155 : decode Y_XSearch_arrange.2.1 155 = .ok (.iload_n 2, 1) := by decide +kernel
theorem d_XSearch_arrange_156 : decode Y_XSearch_arrange.2.1 156 = .ok (.iaload, 1) := by decide +kernel
theorem d_XSearch_arrange_157 : decode Y_XSearch_arrange.2.1 157 = .ok (.iaload, 1) := by decide +kernel
theorem d_XSearch_arrange_158 : decode Y_XSearch_arrange.2.1 158 = .ok (.iload_n 2, 1) := by decide +kernel
theorem d_XSearch_arrange_159 : decode Y_XSearch_arrange.2.1 159 = .ok (.iastore, 1) := by decide +kernel
theorem d_XSearch_arrange_160 : decode Y_XSearch_arrange.2.1 160 = .ok (.iinc 2 (-1), 3) := by decide +kernel
theorem d_XSearch_arrange_163 : decode Y_XSearch_arrange.2.1 163 = .ok (.goto (-58), 3) := by decide +kernel
theorem d_XSearch_arrange_166 : decode Y_XSearch_arrange.2.1 166 = .ok (.return_, 1) := by decide +kernel
def F_XSearch_arrange_55 (n : Nat) (rec10 : Nat → Nat → Int32 → PM → qO) (l0 : Nat) (l1 : Nat) (l2 : Int32) (M : PM) : qO :=
  bI (l2 + (1 : Int32)) (fun v1 =>
  rec10 l0 l1 v1 M)
set_option maxHeartbeats 4000000 in
set_option maxRecDepth 100000 in
theorem E_XSearch_arrange_55 {g : qG} {X : qX} {Z : qZ} (hn : 1 ≤ zn Z) (hl : 23 ≤ zl Z) {n : Nat} {rec10 : Nat → Nat → Int32 → PM → qO} (hrec10 : ∀ (l0 : Nat) (l1 : Nat) (l2 : Int32) (M : PM), rec10 l0 l1 l2 M = some (zr Z, zf Z) → EW Y_XSearch_arrange g X Z 10 [(0, .ref l0), (1, .ref l1), (2, .int l2)] [] M) {l0 : Nat} {l1 : Nat} {l2 : Int32} {M : PM} (h : F_XSearch_arrange_55 n rec10 l0 l1 l2 M = some (zr Z, zf Z)) : EW Y_XSearch_arrange g X Z 55 [(0, .ref l0), (1, .ref l1), (2, .int l2)] [] M := by
  unfold F_XSearch_arrange_55 at h
  obtain ⟨v1, ev1, h⟩ := bI_inv h
  refine ew_iinc (L' := [(0, .ref l0), (1, .ref l1), (2, .int v1)]) v1 [1, 2, 0] d_XSearch_arrange_55 rfl (by rw [ev1]; rfl) (by decide) rfl ?_
  refine ew_goto 10 d_XSearch_arrange_58 (by decide) ?_
  exact hrec10 l0 l1 v1 M h
def F_XSearch_arrange_160 (n : Nat) (rec105 : Nat → Nat → Int32 → PM → qO) (l0 : Nat) (l1 : Nat) (l2 : Int32) (M : PM) : qO :=
  bI (l2 + (-1 : Int32)) (fun v1 =>
  rec105 l0 l1 v1 M)
set_option maxHeartbeats 4000000 in
set_option maxRecDepth 100000 in
theorem E_XSearch_arrange_160 {g : qG} {X : qX} {Z : qZ} (hn : 1 ≤ zn Z) (hl : 23 ≤ zl Z) {n : Nat} {rec105 : Nat → Nat → Int32 → PM → qO} (hrec105 : ∀ (l0 : Nat) (l1 : Nat) (l2 : Int32) (M : PM), rec105 l0 l1 l2 M = some (zr Z, zf Z) → EW Y_XSearch_arrange g X Z 105 [(0, .ref l0), (1, .ref l1), (2, .int l2)] [] M) {l0 : Nat} {l1 : Nat} {l2 : Int32} {M : PM} (h : F_XSearch_arrange_160 n rec105 l0 l1 l2 M = some (zr Z, zf Z)) : EW Y_XSearch_arrange g X Z 160 [(0, .ref l0), (1, .ref l1), (2, .int l2)] [] M := by
  unfold F_XSearch_arrange_160 at h
  obtain ⟨v1, ev1, h⟩ := bI_inv h
  refine ew_iinc (L' := [(0, .ref l0), (1, .ref l1), (2, .int v1)]) v1 [1, 2, 0] d_XSearch_arrange_160 rfl (by rw [ev1]; rfl) (by decide) rfl ?_
  refine ew_goto 105 d_XSearch_arrange_163 (by decide) ?_
  exact hrec105 l0 l1 v1 M h
def F_XSearch_arrange_105 (n : Nat) : Nat → Nat → Nat → Int32 → PM → qO
  | 0, _, _, _, _ => none
  | f + 1, l0, l1, l2, M =>
    if l2 < (0 : Int32) then
      some (.inl none, M)
    else
      lZ M l1 l2 (fun v2 =>
      if v2 = (0 : Int32) then
        F_XSearch_arrange_160 n (F_XSearch_arrange_105 n f) l0 l1 l2 M
      else
        gR 7 M l0 0 (fun v4 =>
        gR 2 M v4 0 (fun v5 =>
        lI M v5 l2 (fun v6 =>
        if v6 ≤ (5 : Int32) then
          F_XSearch_arrange_160 n (F_XSearch_arrange_105 n f) l0 l1 l2 M
        else
          gR 7 M l0 8 (fun v8 =>
          gR 7 M l0 6 (fun v9 =>
          lI M v9 l2 (fun v10 =>
          lI M v8 v10 (fun v11 =>
          wI M v8 v10 (v11 - (1 : Int32)) (fun M12 =>
          gR 7 M12 l0 7 (fun v13 =>
          gR 7 M12 l0 8 (fun v14 =>
          gR 7 M12 l0 6 (fun v15 =>
          lI M12 v15 l2 (fun v16 =>
          lI M12 v14 v16 (fun v17 =>
          wI M12 v13 v17 l2 (fun M18 =>
          F_XSearch_arrange_160 n (F_XSearch_arrange_105 n f) l0 l1 l2 M18)))))))))))))))
set_option maxHeartbeats 4000000 in
set_option maxRecDepth 100000 in
theorem E_XSearch_arrange_105 {g : qG} {X : qX} {Z : qZ} (hn : 1 ≤ zn Z) (hl : 23 ≤ zl Z) {n : Nat} : ∀ (f : Nat) (l0 : Nat) (l1 : Nat) (l2 : Int32) (M : PM), F_XSearch_arrange_105 n f l0 l1 l2 M = some (zr Z, zf Z) → EW Y_XSearch_arrange g X Z 105 [(0, .ref l0), (1, .ref l1), (2, .int l2)] [] M := by
  intro f
  induction f with
  | zero => intro l0 l1 l2 M h; rw [F_XSearch_arrange_105] at h; cases h
  | succ f ih =>
    intro l0 l1 l2 M h
    rw [F_XSearch_arrange_105] at h
    refine ew_iload_n 2 d_XSearch_arrange_105 rfl rfl ?_
    refine ew_if_lt 166 d_XSearch_arrange_106 (by decide) (fun c1 => ?_) (fun c1 => ?_)
    · rw [if_pos c1] at h
      obtain ⟨hz, hm⟩ := Prod.mk.inj (Option.some.inj h)
      exact ew_return d_XSearch_arrange_166 rfl hz.symm hm.symm
    · rw [if_neg c1] at h
      refine ew_aload_n 1 d_XSearch_arrange_109 rfl rfl ?_
      refine ew_iload_n 2 d_XSearch_arrange_110 rfl rfl ?_
      obtain ⟨v2, av2, bv2, cv2, ev2, h⟩ := lZ_inv h
      refine ew_lZ d_XSearch_arrange_111 av2 bv2 cv2 ev2 ?_
      refine ew_if_eq 160 d_XSearch_arrange_112 (by decide) (fun c3 => ?_) (fun c3 => ?_)
      · rw [if_pos c3] at h
        exact E_XSearch_arrange_160 hn hl ih h
      · rw [if_neg c3] at h
        refine ew_aload_n 0 d_XSearch_arrange_115 rfl rfl ?_
        obtain ⟨v4, av4, bv4, h⟩ := gR_inv h
        refine ew_gR 7 0 d_XSearch_arrange_116 fl_XSearch_9 av4 bv4 ?_
        obtain ⟨v5, av5, bv5, h⟩ := gR_inv h
        refine ew_gR 2 0 d_XSearch_arrange_119 fl_XSearch_121 av5 bv5 ?_
        refine ew_iload_n 2 d_XSearch_arrange_122 rfl rfl ?_
        obtain ⟨v6, av6, bv6, cv6, ev6, h⟩ := lI_inv h
        refine ew_lI d_XSearch_arrange_123 av6 bv6 cv6 ev6 ?_
        refine ew_iconst (5) d_XSearch_arrange_124 (by decide) ?_
        refine ew_icmp_le 160 d_XSearch_arrange_125 (by decide) (fun c7 => ?_) (fun c7 => ?_)
        · rw [if_pos c7] at h
          exact E_XSearch_arrange_160 hn hl ih h
        · rw [if_neg c7] at h
          refine ew_aload_n 0 d_XSearch_arrange_128 rfl rfl ?_
          obtain ⟨v8, av8, bv8, h⟩ := gR_inv h
          refine ew_gR 7 8 d_XSearch_arrange_129 fl_XSearch_50 av8 bv8 ?_
          refine ew_aload_n 0 d_XSearch_arrange_132 rfl rfl ?_
          obtain ⟨v9, av9, bv9, h⟩ := gR_inv h
          refine ew_gR 7 6 d_XSearch_arrange_133 fl_XSearch_44 av9 bv9 ?_
          refine ew_iload_n 2 d_XSearch_arrange_136 rfl rfl ?_
          obtain ⟨v10, av10, bv10, cv10, ev10, h⟩ := lI_inv h
          refine ew_lI d_XSearch_arrange_137 av10 bv10 cv10 ev10 ?_
          refine ew_dup2 d_XSearch_arrange_138 rfl rfl ?_
          obtain ⟨v11, av11, bv11, cv11, ev11, h⟩ := lI_inv h
          refine ew_lI d_XSearch_arrange_139 av11 bv11 cv11 ev11 ?_
          refine ew_iconst (1) d_XSearch_arrange_140 (by decide) ?_
          refine ew_isub d_XSearch_arrange_141 ?_
          obtain ⟨M12, aM12, bM12, cM12, eM12, h⟩ := wI_inv h
          refine ew_wI d_XSearch_arrange_142 aM12 bM12 cM12 eM12 ?_
          refine ew_aload_n 0 d_XSearch_arrange_143 rfl rfl ?_
          obtain ⟨v13, av13, bv13, h⟩ := gR_inv h
          refine ew_gR 7 7 d_XSearch_arrange_144 fl_XSearch_47 av13 bv13 ?_
          refine ew_aload_n 0 d_XSearch_arrange_147 rfl rfl ?_
          obtain ⟨v14, av14, bv14, h⟩ := gR_inv h
          refine ew_gR 7 8 d_XSearch_arrange_148 fl_XSearch_50 av14 bv14 ?_
          refine ew_aload_n 0 d_XSearch_arrange_151 rfl rfl ?_
          obtain ⟨v15, av15, bv15, h⟩ := gR_inv h
          refine ew_gR 7 6 d_XSearch_arrange_152 fl_XSearch_44 av15 bv15 ?_
          refine ew_iload_n 2 d_XSearch_arrange_155 rfl rfl ?_
          obtain ⟨v16, av16, bv16, cv16, ev16, h⟩ := lI_inv h
          refine ew_lI d_XSearch_arrange_156 av16 bv16 cv16 ev16 ?_
          obtain ⟨v17, av17, bv17, cv17, ev17, h⟩ := lI_inv h
          refine ew_lI d_XSearch_arrange_157 av17 bv17 cv17 ev17 ?_
          refine ew_iload_n 2 d_XSearch_arrange_158 rfl rfl ?_
          obtain ⟨M18, aM18, bM18, cM18, eM18, h⟩ := wI_inv h
          refine ew_wI d_XSearch_arrange_159 aM18 bM18 cM18 eM18 ?_
          exact E_XSearch_arrange_160 hn hl ih h
def F_XSearch_arrange_63 (n : Nat) : Nat → Nat → Nat → Int32 → PM → qO
  | 0, _, _, _, _ => none
  | f + 1, l0, l1, l2, M =>
    gR 7 M l0 8 (fun v1 =>
    aL M v1 (fun v2 =>
    if v2 ≤ l2 then
      gR 7 M l0 0 (fun v4 =>
      gI 2 M v4 8 (fun v5 =>
      bI (v5 - (1 : Int32)) (fun v6 =>
      F_XSearch_arrange_105 n n l0 l1 v6 M)))
    else
      gR 7 M l0 8 (fun v7 =>
      lI M v7 l2 (fun v8 =>
      gR 7 M l0 8 (fun v9 =>
      lI M v9 (l2 - (1 : Int32)) (fun v10 =>
      wI M v7 l2 (v8 + v10) (fun M11 =>
      bI (l2 + (1 : Int32)) (fun v12 =>
      (F_XSearch_arrange_63 n f) l0 l1 v12 M11))))))))
set_option maxHeartbeats 4000000 in
set_option maxRecDepth 100000 in
theorem E_XSearch_arrange_63 {g : qG} {X : qX} {Z : qZ} (hn : 1 ≤ zn Z) (hl : 23 ≤ zl Z) {n : Nat} : ∀ (f : Nat) (l0 : Nat) (l1 : Nat) (l2 : Int32) (M : PM), F_XSearch_arrange_63 n f l0 l1 l2 M = some (zr Z, zf Z) → EW Y_XSearch_arrange g X Z 63 [(0, .ref l0), (1, .ref l1), (2, .int l2)] [] M := by
  intro f
  induction f with
  | zero => intro l0 l1 l2 M h; rw [F_XSearch_arrange_63] at h; cases h
  | succ f ih =>
    intro l0 l1 l2 M h
    rw [F_XSearch_arrange_63] at h
    refine ew_iload_n 2 d_XSearch_arrange_63 rfl rfl ?_
    refine ew_aload_n 0 d_XSearch_arrange_64 rfl rfl ?_
    obtain ⟨v1, av1, bv1, h⟩ := gR_inv h
    refine ew_gR 7 8 d_XSearch_arrange_65 fl_XSearch_50 av1 bv1 ?_
    obtain ⟨v2, av2, ev2, h⟩ := aL_inv h
    refine ew_aL d_XSearch_arrange_68 av2 ev2 ?_
    refine ew_icmp_ge 95 d_XSearch_arrange_69 (by decide) (fun c3 => ?_) (fun c3 => ?_)
    · rw [if_pos c3] at h
      refine ew_aload_n 0 d_XSearch_arrange_95 rfl rfl ?_
      obtain ⟨v4, av4, bv4, h⟩ := gR_inv h
      refine ew_gR 7 0 d_XSearch_arrange_96 fl_XSearch_9 av4 bv4 ?_
      obtain ⟨v5, av5, bv5, h⟩ := gI_inv h
      refine ew_gI 2 8 d_XSearch_arrange_99 fl_XSearch_118 av5 bv5 ?_
      refine ew_iconst (1) d_XSearch_arrange_102 (by decide) ?_
      refine ew_isub d_XSearch_arrange_103 ?_
      obtain ⟨v6, ev6, h⟩ := bI_inv h
      refine ew_topI ev6 ?_
      refine ew_istore_n (L' := [(0, .ref l0), (1, .ref l1), (2, .int v6)]) 2 [1, 2, 0] d_XSearch_arrange_104 rfl (by decide) rfl ?_
      exact E_XSearch_arrange_105 hn hl n l0 l1 v6 M h
    · rw [if_neg c3] at h
      refine ew_aload_n 0 d_XSearch_arrange_72 rfl rfl ?_
      obtain ⟨v7, av7, bv7, h⟩ := gR_inv h
      refine ew_gR 7 8 d_XSearch_arrange_73 fl_XSearch_50 av7 bv7 ?_
      refine ew_iload_n 2 d_XSearch_arrange_76 rfl rfl ?_
      refine ew_dup2 d_XSearch_arrange_77 rfl rfl ?_
      obtain ⟨v8, av8, bv8, cv8, ev8, h⟩ := lI_inv h
      refine ew_lI d_XSearch_arrange_78 av8 bv8 cv8 ev8 ?_
      refine ew_aload_n 0 d_XSearch_arrange_79 rfl rfl ?_
      obtain ⟨v9, av9, bv9, h⟩ := gR_inv h
      refine ew_gR 7 8 d_XSearch_arrange_80 fl_XSearch_50 av9 bv9 ?_
      refine ew_iload_n 2 d_XSearch_arrange_83 rfl rfl ?_
      refine ew_iconst (1) d_XSearch_arrange_84 (by decide) ?_
      refine ew_isub d_XSearch_arrange_85 ?_
      obtain ⟨v10, av10, bv10, cv10, ev10, h⟩ := lI_inv h
      refine ew_lI d_XSearch_arrange_86 av10 bv10 cv10 ev10 ?_
      refine ew_iadd d_XSearch_arrange_87 ?_
      obtain ⟨M11, aM11, bM11, cM11, eM11, h⟩ := wI_inv h
      refine ew_wI d_XSearch_arrange_88 aM11 bM11 cM11 eM11 ?_
      obtain ⟨v12, ev12, h⟩ := bI_inv h
      refine ew_iinc (L' := [(0, .ref l0), (1, .ref l1), (2, .int v12)]) v12 [1, 2, 0] d_XSearch_arrange_89 rfl (by rw [ev12]; rfl) (by decide) rfl ?_
      refine ew_goto 63 d_XSearch_arrange_92 (by decide) ?_
      exact ih l0 l1 v12 M11 h
def F_XSearch_arrange_10 (n : Nat) : Nat → Nat → Nat → Int32 → PM → qO
  | 0, _, _, _, _ => none
  | f + 1, l0, l1, l2, M =>
    gR 7 M l0 0 (fun v1 =>
    gI 2 M v1 8 (fun v2 =>
    if v2 ≤ l2 then
      F_XSearch_arrange_63 n n l0 l1 (1 : Int32) M
    else
      lZ M l1 l2 (fun v4 =>
      if v4 = (0 : Int32) then
        F_XSearch_arrange_55 n (F_XSearch_arrange_10 n f) l0 l1 l2 M
      else
        gR 7 M l0 0 (fun v6 =>
        gR 2 M v6 0 (fun v7 =>
        lI M v7 l2 (fun v8 =>
        if v8 ≤ (5 : Int32) then
          F_XSearch_arrange_55 n (F_XSearch_arrange_10 n f) l0 l1 l2 M
        else
          gR 7 M l0 8 (fun v10 =>
          gR 7 M l0 6 (fun v11 =>
          lI M v11 l2 (fun v12 =>
          lI M v10 v12 (fun v13 =>
          wI M v10 v12 (v13 + (1 : Int32)) (fun M14 =>
          F_XSearch_arrange_55 n (F_XSearch_arrange_10 n f) l0 l1 l2 M14)))))))))))
set_option maxHeartbeats 4000000 in
set_option maxRecDepth 100000 in
theorem E_XSearch_arrange_10 {g : qG} {X : qX} {Z : qZ} (hn : 1 ≤ zn Z) (hl : 23 ≤ zl Z) {n : Nat} : ∀ (f : Nat) (l0 : Nat) (l1 : Nat) (l2 : Int32) (M : PM), F_XSearch_arrange_10 n f l0 l1 l2 M = some (zr Z, zf Z) → EW Y_XSearch_arrange g X Z 10 [(0, .ref l0), (1, .ref l1), (2, .int l2)] [] M := by
  intro f
  induction f with
  | zero => intro l0 l1 l2 M h; rw [F_XSearch_arrange_10] at h; cases h
  | succ f ih =>
    intro l0 l1 l2 M h
    rw [F_XSearch_arrange_10] at h
    refine ew_iload_n 2 d_XSearch_arrange_10 rfl rfl ?_
    refine ew_aload_n 0 d_XSearch_arrange_11 rfl rfl ?_
    obtain ⟨v1, av1, bv1, h⟩ := gR_inv h
    refine ew_gR 7 0 d_XSearch_arrange_12 fl_XSearch_9 av1 bv1 ?_
    obtain ⟨v2, av2, bv2, h⟩ := gI_inv h
    refine ew_gI 2 8 d_XSearch_arrange_15 fl_XSearch_118 av2 bv2 ?_
    refine ew_icmp_ge 61 d_XSearch_arrange_18 (by decide) (fun c3 => ?_) (fun c3 => ?_)
    · rw [if_pos c3] at h
      refine ew_iconst (1) d_XSearch_arrange_61 (by decide) ?_
      refine ew_istore_n (L' := [(0, .ref l0), (1, .ref l1), (2, .int (1 : Int32))]) 2 [1, 2, 0] d_XSearch_arrange_62 rfl (by decide) rfl ?_
      exact E_XSearch_arrange_63 hn hl n l0 l1 (1 : Int32) M h
    · rw [if_neg c3] at h
      refine ew_aload_n 1 d_XSearch_arrange_21 rfl rfl ?_
      refine ew_iload_n 2 d_XSearch_arrange_22 rfl rfl ?_
      obtain ⟨v4, av4, bv4, cv4, ev4, h⟩ := lZ_inv h
      refine ew_lZ d_XSearch_arrange_23 av4 bv4 cv4 ev4 ?_
      refine ew_if_eq 55 d_XSearch_arrange_24 (by decide) (fun c5 => ?_) (fun c5 => ?_)
      · rw [if_pos c5] at h
        exact E_XSearch_arrange_55 hn hl ih h
      · rw [if_neg c5] at h
        refine ew_aload_n 0 d_XSearch_arrange_27 rfl rfl ?_
        obtain ⟨v6, av6, bv6, h⟩ := gR_inv h
        refine ew_gR 7 0 d_XSearch_arrange_28 fl_XSearch_9 av6 bv6 ?_
        obtain ⟨v7, av7, bv7, h⟩ := gR_inv h
        refine ew_gR 2 0 d_XSearch_arrange_31 fl_XSearch_121 av7 bv7 ?_
        refine ew_iload_n 2 d_XSearch_arrange_34 rfl rfl ?_
        obtain ⟨v8, av8, bv8, cv8, ev8, h⟩ := lI_inv h
        refine ew_lI d_XSearch_arrange_35 av8 bv8 cv8 ev8 ?_
        refine ew_iconst (5) d_XSearch_arrange_36 (by decide) ?_
        refine ew_icmp_le 55 d_XSearch_arrange_37 (by decide) (fun c9 => ?_) (fun c9 => ?_)
        · rw [if_pos c9] at h
          exact E_XSearch_arrange_55 hn hl ih h
        · rw [if_neg c9] at h
          refine ew_aload_n 0 d_XSearch_arrange_40 rfl rfl ?_
          obtain ⟨v10, av10, bv10, h⟩ := gR_inv h
          refine ew_gR 7 8 d_XSearch_arrange_41 fl_XSearch_50 av10 bv10 ?_
          refine ew_aload_n 0 d_XSearch_arrange_44 rfl rfl ?_
          obtain ⟨v11, av11, bv11, h⟩ := gR_inv h
          refine ew_gR 7 6 d_XSearch_arrange_45 fl_XSearch_44 av11 bv11 ?_
          refine ew_iload_n 2 d_XSearch_arrange_48 rfl rfl ?_
          obtain ⟨v12, av12, bv12, cv12, ev12, h⟩ := lI_inv h
          refine ew_lI d_XSearch_arrange_49 av12 bv12 cv12 ev12 ?_
          refine ew_dup2 d_XSearch_arrange_50 rfl rfl ?_
          obtain ⟨v13, av13, bv13, cv13, ev13, h⟩ := lI_inv h
          refine ew_lI d_XSearch_arrange_51 av13 bv13 cv13 ev13 ?_
          refine ew_iconst (1) d_XSearch_arrange_52 (by decide) ?_
          refine ew_iadd d_XSearch_arrange_53 ?_
          obtain ⟨M14, aM14, bM14, cM14, eM14, h⟩ := wI_inv h
          refine ew_wI d_XSearch_arrange_54 aM14 bM14 cM14 eM14 ?_
          exact E_XSearch_arrange_55 hn hl ih h
def F_XSearch_arrange (n : Nat) (l0 : Nat) (l1 : Nat) (M : PM) : qO :=
  gR 7 M l0 8 (fun v1 =>
  cV (F_JArrays_fill n v1 (0 : Int32) M) (fun M2 =>
  F_XSearch_arrange_10 n n l0 l1 (0 : Int32) M2))
set_option maxHeartbeats 4000000 in
set_option maxRecDepth 100000 in
theorem E_XSearch_arrange {g : qG} {X : qX} {Z : qZ} (hn : 1 ≤ zn Z) (hl : 23 ≤ zl Z) {n : Nat} {l0 : Nat} {l1 : Nat} {M : PM} (h : F_XSearch_arrange n l0 l1 M = some (zr Z, zf Z)) : EW Y_XSearch_arrange g X Z 0 [(0, .ref l0), (1, .ref l1)] [] M := by
  unfold F_XSearch_arrange at h
  refine ew_aload_n 0 d_XSearch_arrange_0 rfl rfl ?_
  obtain ⟨v1, av1, bv1, h⟩ := gR_inv h
  refine ew_gR 7 8 d_XSearch_arrange_1 fl_XSearch_50 av1 bv1 ?_
  refine ew_iconst (0) d_XSearch_arrange_4 (by decide) ?_
  obtain ⟨M2, hM2, h⟩ := cV_inv h
  refine ew_callS [.ref v1, .int (0 : Int32)] d_XSearch_arrange_5 cs_XSearch_153 (T_JArrays_fill hM2) (Nat.le_trans (Nat.le_of_ble_eq_true rfl) hn) (Nat.le_trans (Nat.le_of_ble_eq_true rfl) hl) (Nat.le_of_ble_eq_true rfl) rfl rfl ?_
  refine ew_iconst (0) d_XSearch_arrange_8 (by decide) ?_
  refine ew_istore_n (L' := [(0, .ref l0), (1, .ref l1), (2, .int (0 : Int32))]) 2 [1, 2, 0] d_XSearch_arrange_9 rfl (by decide) rfl ?_
  exact E_XSearch_arrange_10 hn hl n l0 l1 (0 : Int32) M2 h
theorem T_XSearch_arrange {n : Nat} {l0 : Nat} {l1 : Nat} {M Mf : PM} {res : qRs} (h : F_XSearch_arrange n l0 l1 M = some (res, Mf)) : CT Y_XSearch_arrange 1 23 [.ref l0, .ref l1] M res Mf :=
  CT_of (by decide) (Nat.le_of_ble_eq_true rfl) (qHd_ne (by decide)) (fun g X ad0 => E_XSearch_arrange (g := g) (X := X) (Z := (ad0, M, res, Mf, 1, 23)) (Nat.le_refl _) (Nat.le_refl _) h)
theorem d_XSearch_setTruths_0 : decode Y_XSearch_setTruths.2.1 0 = .ok (.aload_n 0, 1) := by decide +kernel
theorem d_XSearch_setTruths_1 : decode Y_XSearch_setTruths.2.1 1 = .ok (.getfield 24, 3) := by decide +kernel
theorem d_XSearch_setTruths_4 : decode Y_XSearch_setTruths.2.1 4 = .ok (.iconst 0, 1) := by decide +kernel
theorem d_XSearch_setTruths_5 : decode Y_XSearch_setTruths.2.1 5 = .ok (.lconst 0, 1) := by decide +kernel
theorem d_XSearch_setTruths_6 : decode Y_XSearch_setTruths.2.1 6 = .ok (.invokevirtual 159, 3) := by decide +kernel
theorem d_XSearch_setTruths_9 : decode Y_XSearch_setTruths.2.1 9 = .ok (.aload_n 0, 1) := by decide +kernel
theorem d_XSearch_setTruths_10 : decode Y_XSearch_setTruths.2.1 10 = .ok (.getfield 24, 3) := by decide +kernel
theorem d_XSearch_setTruths_13 : decode Y_XSearch_setTruths.2.1 13 = .ok (.iconst 1, 1) := by decide +kernel
theorem d_XSearch_setTruths_14 : decode Y_XSearch_setTruths.2.1 14 = .ok (.ldc2_w 163, 3) := by decide +kernel
theorem d_XSearch_setTruths_17 : decode Y_XSearch_setTruths.2.1 17 = .ok (.invokevirtual 159, 3) := by decide +kernel
theorem d_XSearch_setTruths_20 : decode Y_XSearch_setTruths.2.1 20 = .ok (.iconst 0, 1) := by decide +kernel
theorem d_XSearch_setTruths_21 : decode Y_XSearch_setTruths.2.1 21 = .ok (.istore_n 1, 1) := by decide +kernel
theorem d_XSearch_setTruths_22 : decode Y_XSearch_setTruths.2.1 22 = .ok (.iload_n 1, 1) := by decide +kernel
theorem d_XSearch_setTruths_23 : decode Y_XSearch_setTruths.2.1 23 = .ok (.aload_n 0, 1) := by decide +kernel
theorem d_XSearch_setTruths_24 : decode Y_XSearch_setTruths.2.1 24 = .ok (.getfield 80, 3) := by decide +kernel
theorem d_XSearch_setTruths_27 : decode Y_XSearch_setTruths.2.1 27 = .ok (.if_icmp .ge (34), 3) := by decide +kernel
theorem d_XSearch_setTruths_30 : decode Y_XSearch_setTruths.2.1 30 = .ok (.aload_n 0, 1) := by decide +kernel
theorem d_XSearch_setTruths_31 : decode Y_XSearch_setTruths.2.1 31 = .ok (.getfield 24, 3) := by decide +kernel
theorem d_XSearch_setTruths_34 : decode Y_XSearch_setTruths.2.1 34 = .ok (.aload_n 0, 1) := by decide +kernel
theorem d_XSearch_setTruths_35 : decode Y_XSearch_setTruths.2.1 35 = .ok (.getfield 28, 3) := by decide +kernel
theorem d_XSearch_setTruths_38 : decode Y_XSearch_setTruths.2.1 38 = .ok (.iload_n 1, 1) := by decide +kernel
theorem d_XSearch_setTruths_39 : decode Y_XSearch_setTruths.2.1 39 = .ok (.iaload, 1) := by decide +kernel
theorem d_XSearch_setTruths_40 : decode Y_XSearch_setTruths.2.1 40 = .ok (.getstatic 165, 3) := by decide +kernel
theorem d_XSearch_setTruths_43 : decode Y_XSearch_setTruths.2.1 43 = .ok (.aload_n 0, 1) := by decide +kernel
theorem d_XSearch_setTruths_44 : decode Y_XSearch_setTruths.2.1 44 = .ok (.getfield 80, 3) := by decide +kernel
theorem d_XSearch_setTruths_47 : decode Y_XSearch_setTruths.2.1 47 = .ok (.iconst 1, 1) := by decide +kernel
theorem d_XSearch_setTruths_48 : decode Y_XSearch_setTruths.2.1 48 = .ok (.isub, 1) := by decide +kernel
theorem d_XSearch_setTruths_49 : decode Y_XSearch_setTruths.2.1 49 = .ok (.iload_n 1, 1) := by decide +kernel
theorem d_XSearch_setTruths_50 : decode Y_XSearch_setTruths.2.1 50 = .ok (.isub, 1) := by decide +kernel
theorem d_XSearch_setTruths_51 : decode Y_XSearch_setTruths.2.1 51 = .ok (.laload, 1) := by decide +kernel
theorem d_XSearch_setTruths_52 : decode Y_XSearch_setTruths.2.1 52 = .ok (.invokevirtual 159, 3) := by decide +kernel
theorem d_XSearch_setTruths_55 : decode Y_XSearch_setTruths.2.1 55 = .ok (.iinc 1 (1), 3) := by decide +kernel
theorem d_XSearch_setTruths_58 : decode Y_XSearch_setTruths.2.1 58 = .ok (.goto (-36), 3) := by decide +kernel
theorem d_XSearch_setTruths_61 : decode Y_XSearch_setTruths.2.1 61 = .ok (.return_, 1) := by decide +kernel
def F_XSearch_setTruths_22 (n : Nat) : Nat → Nat → Int32 → PM → qO
  | 0, _, _, _ => none
  | f + 1, l0, l1, M =>
    gI 7 M l0 10 (fun v1 =>
    if v1 ≤ l1 then
      some (.inl none, M)
    else
      gR 7 M l0 2 (fun v3 =>
      gR 7 M l0 3 (fun v4 =>
      lI M v4 l1 (fun v5 =>
      gI 7 M l0 10 (fun v6 =>
      tb ((v6 - (1 : Int32)) - l1) (fun v7 =>
      kO 4 M v3 (
      cV (F_XPlanes_setTruth n v3 v5 v7 M) (fun M8 =>
      bI (l1 + (1 : Int32)) (fun v9 =>
      (F_XSearch_setTruths_22 n f) l0 v9 M8)))))))))
set_option maxHeartbeats 4000000 in
set_option maxRecDepth 100000 in
theorem E_XSearch_setTruths_22 {g : qG} {X : qX} {Z : qZ} (hn : 1 ≤ zn Z) (hl : 23 ≤ zl Z) {n : Nat} : ∀ (f : Nat) (l0 : Nat) (l1 : Int32) (M : PM), F_XSearch_setTruths_22 n f l0 l1 M = some (zr Z, zf Z) → EW Y_XSearch_setTruths g X Z 22 [(0, .ref l0), (1, .int l1)] [] M := by
  intro f
  induction f with
  | zero => intro l0 l1 M h; rw [F_XSearch_setTruths_22] at h; cases h
  | succ f ih =>
    intro l0 l1 M h
    rw [F_XSearch_setTruths_22] at h
    refine ew_iload_n 1 d_XSearch_setTruths_22 rfl rfl ?_
    refine ew_aload_n 0 d_XSearch_setTruths_23 rfl rfl ?_
    obtain ⟨v1, av1, bv1, h⟩ := gI_inv h
    refine ew_gI 7 10 d_XSearch_setTruths_24 fl_XSearch_80 av1 bv1 ?_
    refine ew_icmp_ge 61 d_XSearch_setTruths_27 (by decide) (fun c2 => ?_) (fun c2 => ?_)
    · rw [if_pos c2] at h
      obtain ⟨hz, hm⟩ := Prod.mk.inj (Option.some.inj h)
      exact ew_return d_XSearch_setTruths_61 rfl hz.symm hm.symm
    · rw [if_neg c2] at h
      refine ew_aload_n 0 d_XSearch_setTruths_30 rfl rfl ?_
      obtain ⟨v3, av3, bv3, h⟩ := gR_inv h
      refine ew_gR 7 2 d_XSearch_setTruths_31 fl_XSearch_24 av3 bv3 ?_
      refine ew_aload_n 0 d_XSearch_setTruths_34 rfl rfl ?_
      obtain ⟨v4, av4, bv4, h⟩ := gR_inv h
      refine ew_gR 7 3 d_XSearch_setTruths_35 fl_XSearch_28 av4 bv4 ?_
      refine ew_iload_n 1 d_XSearch_setTruths_38 rfl rfl ?_
      obtain ⟨v5, av5, bv5, cv5, ev5, h⟩ := lI_inv h
      refine ew_lI d_XSearch_setTruths_39 av5 bv5 cv5 ev5 ?_
      refine ew_gets d_XSearch_setTruths_40 gs_XSearch_165 ?_
      refine ew_aload_n 0 d_XSearch_setTruths_43 rfl rfl ?_
      obtain ⟨v6, av6, bv6, h⟩ := gI_inv h
      refine ew_gI 7 10 d_XSearch_setTruths_44 fl_XSearch_80 av6 bv6 ?_
      refine ew_iconst (1) d_XSearch_setTruths_47 (by decide) ?_
      refine ew_isub d_XSearch_setTruths_48 ?_
      refine ew_iload_n 1 d_XSearch_setTruths_49 rfl rfl ?_
      refine ew_isub d_XSearch_setTruths_50 ?_
      obtain ⟨v7, av7, ev7, h⟩ := tb_inv h
      refine ew_tld d_XSearch_setTruths_51 av7 ev7 ?_
      obtain ⟨kM8, h⟩ := kO_inv h
      obtain ⟨M8, hM8, h⟩ := cV_inv h
      refine ew_callV 4 [.int v5, .long v7] d_XSearch_setTruths_52 cv_XSearch_159 (T_XPlanes_setTruth hM8) kM8 (Nat.le_trans (Nat.le_of_ble_eq_true rfl) hn) (Nat.le_trans (Nat.le_of_ble_eq_true rfl) hl) (Nat.le_of_ble_eq_true rfl) rfl rfl ?_
      obtain ⟨v9, ev9, h⟩ := bI_inv h
      refine ew_iinc (L' := [(0, .ref l0), (1, .int v9)]) v9 [1, 0] d_XSearch_setTruths_55 rfl (by rw [ev9]; rfl) (by decide) rfl ?_
      refine ew_goto 22 d_XSearch_setTruths_58 (by decide) ?_
      exact ih l0 v9 M8 h
def F_XSearch_setTruths (n : Nat) (l0 : Nat) (M : PM) : qO :=
  gR 7 M l0 2 (fun v1 =>
  kO 4 M v1 (
  cV (F_XPlanes_setTruth n v1 (0 : Int32) (0 : Int64) M) (fun M2 =>
  gR 7 M2 l0 2 (fun v3 =>
  kO 4 M2 v3 (
  cV (F_XPlanes_setTruth n v3 (1 : Int32) (-1 : Int64) M2) (fun M4 =>
  F_XSearch_setTruths_22 n n l0 (0 : Int32) M4))))))
set_option maxHeartbeats 4000000 in
set_option maxRecDepth 100000 in
theorem E_XSearch_setTruths {g : qG} {X : qX} {Z : qZ} (hn : 1 ≤ zn Z) (hl : 23 ≤ zl Z) {n : Nat} {l0 : Nat} {M : PM} (h : F_XSearch_setTruths n l0 M = some (zr Z, zf Z)) : EW Y_XSearch_setTruths g X Z 0 [(0, .ref l0)] [] M := by
  unfold F_XSearch_setTruths at h
  refine ew_aload_n 0 d_XSearch_setTruths_0 rfl rfl ?_
  obtain ⟨v1, av1, bv1, h⟩ := gR_inv h
  refine ew_gR 7 2 d_XSearch_setTruths_1 fl_XSearch_24 av1 bv1 ?_
  refine ew_iconst (0) d_XSearch_setTruths_4 (by decide) ?_
  refine ew_lconst 0 d_XSearch_setTruths_5 (by decide) ?_
  obtain ⟨kM2, h⟩ := kO_inv h
  obtain ⟨M2, hM2, h⟩ := cV_inv h
  refine ew_callV 4 [.int (0 : Int32), .long (0 : Int64)] d_XSearch_setTruths_6 cv_XSearch_159 (T_XPlanes_setTruth hM2) kM2 (Nat.le_trans (Nat.le_of_ble_eq_true rfl) hn) (Nat.le_trans (Nat.le_of_ble_eq_true rfl) hl) (Nat.le_of_ble_eq_true rfl) rfl rfl ?_
  refine ew_aload_n 0 d_XSearch_setTruths_9 rfl rfl ?_
  obtain ⟨v3, av3, bv3, h⟩ := gR_inv h
  refine ew_gR 7 2 d_XSearch_setTruths_10 fl_XSearch_24 av3 bv3 ?_
  refine ew_iconst (1) d_XSearch_setTruths_13 (by decide) ?_
  refine ew_ldc2 (-1) d_XSearch_setTruths_14 ct_XSearch_163 ?_
  obtain ⟨kM4, h⟩ := kO_inv h
  obtain ⟨M4, hM4, h⟩ := cV_inv h
  refine ew_callV 4 [.int (1 : Int32), .long (-1 : Int64)] d_XSearch_setTruths_17 cv_XSearch_159 (T_XPlanes_setTruth hM4) kM4 (Nat.le_trans (Nat.le_of_ble_eq_true rfl) hn) (Nat.le_trans (Nat.le_of_ble_eq_true rfl) hl) (Nat.le_of_ble_eq_true rfl) rfl rfl ?_
  refine ew_iconst (0) d_XSearch_setTruths_20 (by decide) ?_
  refine ew_istore_n (L' := [(0, .ref l0), (1, .int (0 : Int32))]) 1 [1, 0] d_XSearch_setTruths_21 rfl (by decide) rfl ?_
  exact E_XSearch_setTruths_22 hn hl n l0 (0 : Int32) M4 h
theorem T_XSearch_setTruths {n : Nat} {l0 : Nat} {M Mf : PM} {res : qRs} (h : F_XSearch_setTruths n l0 M = some (res, Mf)) : CT Y_XSearch_setTruths 1 23 [.ref l0] M res Mf :=
  CT_of (by decide) (Nat.le_of_ble_eq_true rfl) (qHd_ne (by decide)) (fun g X ad0 => E_XSearch_setTruths (g := g) (X := X) (Z := (ad0, M, res, Mf, 1, 23)) (Nat.le_refl _) (Nat.le_refl _) h)
theorem d_XSearch_reckonLevel_0 : decode Y_XSearch_reckonLevel.2.1 0 = .ok (.aload_n 0, 1) := by decide +kernel
theorem d_XSearch_reckonLevel_1 : decode Y_XSearch_reckonLevel.2.1 1 = .ok (.getfield 50, 3) := by decide +kernel
theorem d_XSearch_reckonLevel_4 : decode Y_XSearch_reckonLevel.2.1 4 = .ok (.iload_n 1, 1) := by decide +kernel
theorem d_XSearch_reckonLevel_5 : decode Y_XSearch_reckonLevel.2.1 5 = .ok (.iaload, 1) := by decide +kernel
theorem d_XSearch_reckonLevel_6 : decode Y_XSearch_reckonLevel.2.1 6 = .ok (.istore_n 2, 1) := by decide +kernel
theorem d_XSearch_reckonLevel_7 : decode Y_XSearch_reckonLevel.2.1 7 = .ok (.iload_n 2, 1) := by decide +kernel
theorem d_XSearch_reckonLevel_8 : decode Y_XSearch_reckonLevel.2.1 8 = .ok (.aload_n 0, 1) := by decide +kernel
theorem d_XSearch_reckonLevel_9 : decode Y_XSearch_reckonLevel.2.1 9 = .ok (.getfield 50, 3) := by decide +kernel
theorem d_XSearch_reckonLevel_12 : decode Y_XSearch_reckonLevel.2.1 12 = .ok (.iload_n 1, 1) := by decide +kernel
theorem d_XSearch_reckonLevel_13 : decode Y_XSearch_reckonLevel.2.1 13 = .ok (.iconst 1, 1) := by decide +kernel
theorem d_XSearch_reckonLevel_14 : decode Y_XSearch_reckonLevel.2.1 14 = .ok (.iadd, 1) := by decide +kernel
theorem d_XSearch_reckonLevel_15 : decode Y_XSearch_reckonLevel.2.1 15 = .ok (.iaload, 1) := by decide +kernel
theorem d_XSearch_reckonLevel_16 : decode Y_XSearch_reckonLevel.2.1 16 = .ok (.if_icmp .ge (22), 3) := by decide +kernel
theorem d_XSearch_reckonLevel_19 : decode Y_XSearch_reckonLevel.2.1 19 = .ok (.aload_n 0, 1) := by decide +kernel
theorem d_XSearch_reckonLevel_20 : decode Y_XSearch_reckonLevel.2.1 20 = .ok (.getfield 24, 3) := by decide +kernel
theorem d_XSearch_reckonLevel_23 : decode Y_XSearch_reckonLevel.2.1 23 = .ok (.aload_n 0, 1) := by decide +kernel
theorem d_XSearch_reckonLevel_24 : decode Y_XSearch_reckonLevel.2.1 24 = .ok (.getfield 47, 3) := by decide +kernel
theorem d_XSearch_reckonLevel_27 : decode Y_XSearch_reckonLevel.2.1 27 = .ok (.iload_n 2, 1) := by decide +kernel
theorem d_XSearch_reckonLevel_28 : decode Y_XSearch_reckonLevel.2.1 28 = .ok (.iaload, 1) := by decide +kernel
theorem d_XSearch_reckonLevel_29 : decode Y_XSearch_reckonLevel.2.1 29 = .ok (.invokevirtual 169, 3) := by decide +kernel
theorem d_XSearch_reckonLevel_32 : decode Y_XSearch_reckonLevel.2.1 32 = .ok (.iinc 2 (1), 3) := by decide +kernel
theorem d_XSearch_reckonLevel_35 : decode Y_XSearch_reckonLevel.2.1 35 = .ok (.goto (-28), 3) := by decide +kernel
theorem d_XSearch_reckonLevel_38 : decode Y_XSearch_reckonLevel.2.1 38 = .ok (.return_, 1) := by decide +kernel
def F_XSearch_reckonLevel_7 (n : Nat) : Nat → Nat → Int32 → Int32 → PM → qO
  | 0, _, _, _, _ => none
  | f + 1, l0, l1, l2, M =>
    gR 7 M l0 8 (fun v1 =>
    lI M v1 (l1 + (1 : Int32)) (fun v2 =>
    if v2 ≤ l2 then
      some (.inl none, M)
    else
      gR 7 M l0 2 (fun v4 =>
      gR 7 M l0 7 (fun v5 =>
      lI M v5 l2 (fun v6 =>
      kO 4 M v4 (
      cV (F_XPlanes_reckon n v4 v6 M) (fun M7 =>
      bI (l2 + (1 : Int32)) (fun v8 =>
      (F_XSearch_reckonLevel_7 n f) l0 l1 v8 M7))))))))
set_option maxHeartbeats 4000000 in
set_option maxRecDepth 100000 in
theorem E_XSearch_reckonLevel_7 {g : qG} {X : qX} {Z : qZ} (hn : 2 ≤ zn Z) (hl : 48 ≤ zl Z) {n : Nat} : ∀ (f : Nat) (l0 : Nat) (l1 : Int32) (l2 : Int32) (M : PM), F_XSearch_reckonLevel_7 n f l0 l1 l2 M = some (zr Z, zf Z) → EW Y_XSearch_reckonLevel g X Z 7 [(0, .ref l0), (1, .int l1), (2, .int l2)] [] M := by
  intro f
  induction f with
  | zero => intro l0 l1 l2 M h; rw [F_XSearch_reckonLevel_7] at h; cases h
  | succ f ih =>
    intro l0 l1 l2 M h
    rw [F_XSearch_reckonLevel_7] at h
    refine ew_iload_n 2 d_XSearch_reckonLevel_7 rfl rfl ?_
    refine ew_aload_n 0 d_XSearch_reckonLevel_8 rfl rfl ?_
    obtain ⟨v1, av1, bv1, h⟩ := gR_inv h
    refine ew_gR 7 8 d_XSearch_reckonLevel_9 fl_XSearch_50 av1 bv1 ?_
    refine ew_iload_n 1 d_XSearch_reckonLevel_12 rfl rfl ?_
    refine ew_iconst (1) d_XSearch_reckonLevel_13 (by decide) ?_
    refine ew_iadd d_XSearch_reckonLevel_14 ?_
    obtain ⟨v2, av2, bv2, cv2, ev2, h⟩ := lI_inv h
    refine ew_lI d_XSearch_reckonLevel_15 av2 bv2 cv2 ev2 ?_
    refine ew_icmp_ge 38 d_XSearch_reckonLevel_16 (by decide) (fun c3 => ?_) (fun c3 => ?_)
    · rw [if_pos c3] at h
      obtain ⟨hz, hm⟩ := Prod.mk.inj (Option.some.inj h)
      exact ew_return d_XSearch_reckonLevel_38 rfl hz.symm hm.symm
    · rw [if_neg c3] at h
      refine ew_aload_n 0 d_XSearch_reckonLevel_19 rfl rfl ?_
      obtain ⟨v4, av4, bv4, h⟩ := gR_inv h
      refine ew_gR 7 2 d_XSearch_reckonLevel_20 fl_XSearch_24 av4 bv4 ?_
      refine ew_aload_n 0 d_XSearch_reckonLevel_23 rfl rfl ?_
      obtain ⟨v5, av5, bv5, h⟩ := gR_inv h
      refine ew_gR 7 7 d_XSearch_reckonLevel_24 fl_XSearch_47 av5 bv5 ?_
      refine ew_iload_n 2 d_XSearch_reckonLevel_27 rfl rfl ?_
      obtain ⟨v6, av6, bv6, cv6, ev6, h⟩ := lI_inv h
      refine ew_lI d_XSearch_reckonLevel_28 av6 bv6 cv6 ev6 ?_
      obtain ⟨kM7, h⟩ := kO_inv h
      obtain ⟨M7, hM7, h⟩ := cV_inv h
      refine ew_callV 4 [.int v6] d_XSearch_reckonLevel_29 cv_XSearch_169 (T_XPlanes_reckon hM7) kM7 (Nat.le_trans (Nat.le_of_ble_eq_true rfl) hn) (Nat.le_trans (Nat.le_of_ble_eq_true rfl) hl) (Nat.le_of_ble_eq_true rfl) rfl rfl ?_
      obtain ⟨v8, ev8, h⟩ := bI_inv h
      refine ew_iinc (L' := [(0, .ref l0), (1, .int l1), (2, .int v8)]) v8 [1, 2, 0] d_XSearch_reckonLevel_32 rfl (by rw [ev8]; rfl) (by decide) rfl ?_
      refine ew_goto 7 d_XSearch_reckonLevel_35 (by decide) ?_
      exact ih l0 l1 v8 M7 h
def F_XSearch_reckonLevel (n : Nat) (l0 : Nat) (l1 : Int32) (M : PM) : qO :=
  gR 7 M l0 8 (fun v1 =>
  lI M v1 l1 (fun v2 =>
  F_XSearch_reckonLevel_7 n n l0 l1 v2 M))
set_option maxHeartbeats 4000000 in
set_option maxRecDepth 100000 in
theorem E_XSearch_reckonLevel {g : qG} {X : qX} {Z : qZ} (hn : 2 ≤ zn Z) (hl : 48 ≤ zl Z) {n : Nat} {l0 : Nat} {l1 : Int32} {M : PM} (h : F_XSearch_reckonLevel n l0 l1 M = some (zr Z, zf Z)) : EW Y_XSearch_reckonLevel g X Z 0 [(0, .ref l0), (1, .int l1)] [] M := by
  unfold F_XSearch_reckonLevel at h
  refine ew_aload_n 0 d_XSearch_reckonLevel_0 rfl rfl ?_
  obtain ⟨v1, av1, bv1, h⟩ := gR_inv h
  refine ew_gR 7 8 d_XSearch_reckonLevel_1 fl_XSearch_50 av1 bv1 ?_
  refine ew_iload_n 1 d_XSearch_reckonLevel_4 rfl rfl ?_
  obtain ⟨v2, av2, bv2, cv2, ev2, h⟩ := lI_inv h
  refine ew_lI d_XSearch_reckonLevel_5 av2 bv2 cv2 ev2 ?_
  refine ew_istore_n (L' := [(0, .ref l0), (1, .int l1), (2, .int v2)]) 2 [1, 2, 0] d_XSearch_reckonLevel_6 rfl (by decide) rfl ?_
  exact E_XSearch_reckonLevel_7 hn hl n l0 l1 v2 M h
theorem T_XSearch_reckonLevel {n : Nat} {l0 : Nat} {l1 : Int32} {M Mf : PM} {res : qRs} (h : F_XSearch_reckonLevel n l0 l1 M = some (res, Mf)) : CT Y_XSearch_reckonLevel 2 48 [.ref l0, .int l1] M res Mf :=
  CT_of (by decide) (Nat.le_of_ble_eq_true rfl) (qHd_ne (by decide)) (fun g X ad0 => E_XSearch_reckonLevel (g := g) (X := X) (Z := (ad0, M, res, Mf, 2, 48)) (Nat.le_refl _) (Nat.le_refl _) h)
theorem d_XSearch_statesBelow_0 : decode Y_XSearch_statesBelow.2.1 0 = .ok (.iload_n 0, 1) := by decide +kernel
theorem d_XSearch_statesBelow_1 : decode Y_XSearch_statesBelow.2.1 1 = .ok (.bipush (64), 2) := by decide +kernel
theorem d_XSearch_statesBelow_3 : decode Y_XSearch_statesBelow.2.1 3 = .ok (.if_icmp .lt (9), 3) := by decide +kernel
theorem d_XSearch_statesBelow_6 : decode Y_XSearch_statesBelow.2.1 6 = .ok (.ldc2_w 163, 3) := by decide +kernel
theorem d_XSearch_statesBelow_9 : decode Y_XSearch_statesBelow.2.1 9 = .ok (.goto (8), 3) := by decide +kernel
theorem d_XSearch_statesBelow_12 : decode Y_XSearch_statesBelow.2.1 12 = .ok (.lconst 1, 1) := by decide +kernel
theorem d_XSearch_statesBelow_13 : decode Y_XSearch_statesBelow.2.1 13 = .ok (.iload_n 0, 1) := by decide +kernel
theorem d_XSearch_statesBelow_14 : decode Y_XSearch_statesBelow.2.1 14 = .ok (.lshl, 1) := by decide +kernel
theorem d_XSearch_statesBelow_15 : decode Y_XSearch_statesBelow.2.1 15 = .ok (.lconst 1, 1) := by decide +kernel
theorem d_XSearch_statesBelow_16 : decode Y_XSearch_statesBelow.2.1 16 = .ok (.lsub, 1) := by decide +kernel
theorem d_XSearch_statesBelow_17 : decode Y_XSearch_statesBelow.2.1 17 = .ok (.lreturn, 1) := by decide +kernel
def F_XSearch_statesBelow_17 (n : Nat) (s0 : Int64) (M : PM) : qO :=
  some (.inl (some (.long s0)), M)
set_option maxHeartbeats 4000000 in
set_option maxRecDepth 100000 in
theorem E_XSearch_statesBelow_17 {g : qG} {X : qX} {Z : qZ} (hn : 0 ≤ zn Z) (hl : 0 ≤ zl Z) {n : Nat} {s0 : Int64} {M : PM} (h : F_XSearch_statesBelow_17 n s0 M = some (zr Z, zf Z)) : EW Y_XSearch_statesBelow g X Z 17 [] [.long s0] M := by
  unfold F_XSearch_statesBelow_17 at h
  obtain ⟨hz, hm⟩ := Prod.mk.inj (Option.some.inj h)
  exact ew_lreturn d_XSearch_statesBelow_17 rfl hz.symm hm.symm
def F_XSearch_statesBelow (n : Nat) (l0 : Int32) (M : PM) : qO :=
  if l0 < (64 : Int32) then
    F_XSearch_statesBelow_17 n (((1 : Int64) <<< (l0.toInt64 &&& 63)) - (1 : Int64)) M
  else
    F_XSearch_statesBelow_17 n (-1 : Int64) M
set_option maxHeartbeats 4000000 in
set_option maxRecDepth 100000 in
theorem E_XSearch_statesBelow {g : qG} {X : qX} {Z : qZ} (hn : 0 ≤ zn Z) (hl : 0 ≤ zl Z) {n : Nat} {l0 : Int32} {M : PM} (h : F_XSearch_statesBelow n l0 M = some (zr Z, zf Z)) : EW Y_XSearch_statesBelow g X Z 0 [(0, .int l0)] [] M := by
  unfold F_XSearch_statesBelow at h
  refine ew_iload_n 0 d_XSearch_statesBelow_0 rfl rfl ?_
  refine ew_bipush (64) d_XSearch_statesBelow_1 (by decide +kernel) ?_
  refine ew_icmp_lt 12 d_XSearch_statesBelow_3 (by decide) (fun c1 => ?_) (fun c1 => ?_)
  · rw [if_pos c1] at h
    refine ew_lconst 1 d_XSearch_statesBelow_12 (by decide) ?_
    refine ew_iload_n 0 d_XSearch_statesBelow_13 rfl rfl ?_
    refine ew_lshl d_XSearch_statesBelow_14 ?_
    refine ew_lconst 1 d_XSearch_statesBelow_15 (by decide) ?_
    refine ew_lsub d_XSearch_statesBelow_16 ?_
    exact ew_pick (L' := []) [] rfl (E_XSearch_statesBelow_17 hn hl h)
  · rw [if_neg c1] at h
    refine ew_ldc2 (-1) d_XSearch_statesBelow_6 ct_XSearch_163 ?_
    refine ew_goto 17 d_XSearch_statesBelow_9 (by decide) ?_
    exact ew_pick (L' := []) [] rfl (E_XSearch_statesBelow_17 hn hl h)
theorem T_XSearch_statesBelow {n : Nat} {l0 : Int32} {M Mf : PM} {res : qRs} (h : F_XSearch_statesBelow n l0 M = some (res, Mf)) : CT Y_XSearch_statesBelow 0 0 [.int l0] M res Mf :=
  CT_of (by decide) (Nat.le_of_ble_eq_true rfl) (qHd_ne (by decide)) (fun g X ad0 => E_XSearch_statesBelow (g := g) (X := X) (Z := (ad0, M, res, Mf, 0, 0)) (Nat.le_refl _) (Nat.le_refl _) h)
theorem d_XSearch_withInvariants_0 : decode Y_XSearch_withInvariants.2.1 0 = .ok (.lload_n 2, 1) := by decide +kernel
theorem d_XSearch_withInvariants_1 : decode Y_XSearch_withInvariants.2.1 1 = .ok (.lstore 4, 2) := by decide +kernel
theorem d_XSearch_withInvariants_3 : decode Y_XSearch_withInvariants.2.1 3 = .ok (.iconst 0, 1) := by decide +kernel
theorem d_XSearch_withInvariants_4 : decode Y_XSearch_withInvariants.2.1 4 = .ok (.istore 6, 2) := by decide +kernel
theorem d_XSearch_withInvariants_6 : decode Y_XSearch_withInvariants.2.1 6 = .ok (.iload 6, 2) := by decide +kernel
theorem d_XSearch_withInvariants_8 : decode Y_XSearch_withInvariants.2.1 8 = .ok (.aload_n 0, 1) := by decide +kernel
theorem d_XSearch_withInvariants_9 : decode Y_XSearch_withInvariants.2.1 9 = .ok (.getfield 15, 3) := by decide +kernel
theorem d_XSearch_withInvariants_12 : decode Y_XSearch_withInvariants.2.1 12 = .ok (.getfield 172, 3) := by decide +kernel
theorem d_XSearch_withInvariants_15 : decode Y_XSearch_withInvariants.2.1 15 = .ok (.if_icmp .ge (50), 3) := by decide +kernel
theorem d_XSearch_withInvariants_18 : decode Y_XSearch_withInvariants.2.1 18 = .ok (.aload_n 0, 1) := by decide +kernel
theorem d_XSearch_withInvariants_19 : decode Y_XSearch_withInvariants.2.1 19 = .ok (.getfield 44, 3) := by decide +kernel
theorem d_XSearch_withInvariants_22 : decode Y_XSearch_withInvariants.2.1 22 = .ok (.aload_n 0, 1) := by decide +kernel
theorem d_XSearch_withInvariants_23 : decode Y_XSearch_withInvariants.2.1 23 = .ok (.getfield 15, 3) := by decide +kernel
theorem d_XSearch_withInvariants_26 : decode Y_XSearch_withInvariants.2.1 26 = .ok (.getfield 175, 3) := by decide +kernel
theorem d_XSearch_withInvariants_29 : decode Y_XSearch_withInvariants.2.1 29 = .ok (.iload 6, 2) := by decide +kernel
theorem d_XSearch_withInvariants_31 : decode Y_XSearch_withInvariants.2.1 31 = .ok (.iaload, 1) := by decide +kernel
theorem d_XSearch_withInvariants_32 : decode Y_XSearch_withInvariants.2.1 32 = .ok (.iaload, 1) := by decide +kernel
theorem d_XSearch_withInvariants_33 : decode Y_XSearch_withInvariants.2.1 33 = .ok (.iload_n 1, 1) := by decide +kernel
theorem d_XSearch_withInvariants_34 : decode Y_XSearch_withInvariants.2.1 34 = .ok (.if_icmp .ne (25), 3) := by decide +kernel
theorem d_XSearch_withInvariants_37 : decode Y_XSearch_withInvariants.2.1 37 = .ok (.lload 4, 2) := by decide +kernel
theorem d_XSearch_withInvariants_39 : decode Y_XSearch_withInvariants.2.1 39 = .ok (.aload_n 0, 1) := by decide +kernel
theorem d_XSearch_withInvariants_40 : decode Y_XSearch_withInvariants.2.1 40 = .ok (.getfield 24, 3) := by decide +kernel
theorem d_XSearch_withInvariants_43 : decode Y_XSearch_withInvariants.2.1 43 = .ok (.aload_n 0, 1) := by decide +kernel
theorem d_XSearch_withInvariants_44 : decode Y_XSearch_withInvariants.2.1 44 = .ok (.getfield 15, 3) := by decide +kernel
theorem d_XSearch_withInvariants_47 : decode Y_XSearch_withInvariants.2.1 47 = .ok (.getfield 175, 3) := by decide +kernel
theorem d_XSearch_withInvariants_50 : decode Y_XSearch_withInvariants.2.1 50 = .ok (.iload 6, 2) := by decide +kernel
theorem d_XSearch_withInvariants_52 : decode Y_XSearch_withInvariants.2.1 52 = .ok (.iaload, 1) := by decide +kernel
theorem d_XSearch_withInvariants_53 : decode Y_XSearch_withInvariants.2.1 53 = .ok (.invokevirtual 178, 3) := by decide +kernel
theorem d_XSearch_withInvariants_56 : decode Y_XSearch_withInvariants.2.1 56 = .ok (.land, 1) := by decide +kernel
theorem d_XSearch_withInvariants_57 : decode Y_XSearch_withInvariants.2.1 57 = .ok (.lstore 4, 2) := by decide +kernel
theorem d_XSearch_withInvariants_59 : decode Y_XSearch_withInvariants.2.1 59 = .ok (.iinc 6 (1), 3) := by decide +kernel
theorem d_XSearch_withInvariants_62 : decode Y_XSearch_withInvariants.2.1 62 = .ok (.goto (-56), 3) := by decide +kernel
theorem d_XSearch_withInvariants_65 : decode Y_XSearch_withInvariants.2.1 65 = .ok (.lload 4, 2) := by decide +kernel
theorem d_XSearch_withInvariants_67 : decode Y_XSearch_withInvariants.2.1 67 = .ok (.lreturn, 1) := by decide +kernel
def F_XSearch_withInvariants_59 (n : Nat) (rec6 : Nat → Int32 → Int64 → Int32 → PM → qO) (l0 : Nat) (l1 : Int32) (l4 : Int64) (l6 : Int32) (M : PM) : qO :=
  bI (l6 + (1 : Int32)) (fun v1 =>
  rec6 l0 l1 l4 v1 M)
set_option maxHeartbeats 4000000 in
set_option maxRecDepth 100000 in
theorem E_XSearch_withInvariants_59 {g : qG} {X : qX} {Z : qZ} (hn : 1 ≤ zn Z) (hl : 21 ≤ zl Z) {n : Nat} {rec6 : Nat → Int32 → Int64 → Int32 → PM → qO} (hrec6 : ∀ (l0 : Nat) (l1 : Int32) (l4 : Int64) (l6 : Int32) (M : PM), rec6 l0 l1 l4 l6 M = some (zr Z, zf Z) → EW Y_XSearch_withInvariants g X Z 6 [(0, .ref l0), (1, .int l1), (4, .long l4), (6, .int l6)] [] M) {l0 : Nat} {l1 : Int32} {l4 : Int64} {l6 : Int32} {M : PM} (h : F_XSearch_withInvariants_59 n rec6 l0 l1 l4 l6 M = some (zr Z, zf Z)) : EW Y_XSearch_withInvariants g X Z 59 [(0, .ref l0), (1, .int l1), (4, .long l4), (6, .int l6)] [] M := by
  unfold F_XSearch_withInvariants_59 at h
  obtain ⟨v1, ev1, h⟩ := bI_inv h
  refine ew_iinc (L' := [(0, .ref l0), (1, .int l1), (4, .long l4), (6, .int v1)]) v1 [1, 2, 3, 0] d_XSearch_withInvariants_59 rfl (by rw [ev1]; rfl) (by decide) rfl ?_
  refine ew_goto 6 d_XSearch_withInvariants_62 (by decide) ?_
  exact hrec6 l0 l1 l4 v1 M h
def F_XSearch_withInvariants_6 (n : Nat) : Nat → Nat → Int32 → Int64 → Int32 → PM → qO
  | 0, _, _, _, _, _ => none
  | f + 1, l0, l1, l4, l6, M =>
    gR 7 M l0 1 (fun v1 =>
    gI 6 M v1 3 (fun v2 =>
    if v2 ≤ l6 then
      some (.inl (some (.long l4)), M)
    else
      gR 7 M l0 6 (fun v4 =>
      gR 7 M l0 1 (fun v5 =>
      gR 6 M v5 0 (fun v6 =>
      lI M v6 l6 (fun v7 =>
      lI M v4 v7 (fun v8 =>
      if v8 = l1 then
        gR 7 M l0 2 (fun v10 =>
        gR 7 M l0 1 (fun v11 =>
        gR 6 M v11 0 (fun v12 =>
        lI M v12 l6 (fun v13 =>
        kO 4 M v10 (
        cL (F_XPlanes_truthOf n v10 v13 M) (fun v15 M14 =>
        bL (l4 &&& v15) (fun v16 =>
        F_XSearch_withInvariants_59 n (F_XSearch_withInvariants_6 n f) l0 l1 v16 l6 M14)))))))
      else
        F_XSearch_withInvariants_59 n (F_XSearch_withInvariants_6 n f) l0 l1 l4 l6 M)))))))
set_option maxHeartbeats 4000000 in
set_option maxRecDepth 100000 in
theorem E_XSearch_withInvariants_6 {g : qG} {X : qX} {Z : qZ} (hn : 1 ≤ zn Z) (hl : 21 ≤ zl Z) {n : Nat} : ∀ (f : Nat) (l0 : Nat) (l1 : Int32) (l4 : Int64) (l6 : Int32) (M : PM), F_XSearch_withInvariants_6 n f l0 l1 l4 l6 M = some (zr Z, zf Z) → EW Y_XSearch_withInvariants g X Z 6 [(0, .ref l0), (1, .int l1), (4, .long l4), (6, .int l6)] [] M := by
  intro f
  induction f with
  | zero => intro l0 l1 l4 l6 M h; rw [F_XSearch_withInvariants_6] at h; cases h
  | succ f ih =>
    intro l0 l1 l4 l6 M h
    rw [F_XSearch_withInvariants_6] at h
    refine ew_iload d_XSearch_withInvariants_6 rfl ?_
    refine ew_aload_n 0 d_XSearch_withInvariants_8 rfl rfl ?_
    obtain ⟨v1, av1, bv1, h⟩ := gR_inv h
    refine ew_gR 7 1 d_XSearch_withInvariants_9 fl_XSearch_15 av1 bv1 ?_
    obtain ⟨v2, av2, bv2, h⟩ := gI_inv h
    refine ew_gI 6 3 d_XSearch_withInvariants_12 fl_XSearch_172 av2 bv2 ?_
    refine ew_icmp_ge 65 d_XSearch_withInvariants_15 (by decide) (fun c3 => ?_) (fun c3 => ?_)
    · rw [if_pos c3] at h
      refine ew_lload d_XSearch_withInvariants_65 rfl ?_
      obtain ⟨hz, hm⟩ := Prod.mk.inj (Option.some.inj h)
      exact ew_lreturn d_XSearch_withInvariants_67 rfl hz.symm hm.symm
    · rw [if_neg c3] at h
      refine ew_aload_n 0 d_XSearch_withInvariants_18 rfl rfl ?_
      obtain ⟨v4, av4, bv4, h⟩ := gR_inv h
      refine ew_gR 7 6 d_XSearch_withInvariants_19 fl_XSearch_44 av4 bv4 ?_
      refine ew_aload_n 0 d_XSearch_withInvariants_22 rfl rfl ?_
      obtain ⟨v5, av5, bv5, h⟩ := gR_inv h
      refine ew_gR 7 1 d_XSearch_withInvariants_23 fl_XSearch_15 av5 bv5 ?_
      obtain ⟨v6, av6, bv6, h⟩ := gR_inv h
      refine ew_gR 6 0 d_XSearch_withInvariants_26 fl_XSearch_175 av6 bv6 ?_
      refine ew_iload d_XSearch_withInvariants_29 rfl ?_
      obtain ⟨v7, av7, bv7, cv7, ev7, h⟩ := lI_inv h
      refine ew_lI d_XSearch_withInvariants_31 av7 bv7 cv7 ev7 ?_
      obtain ⟨v8, av8, bv8, cv8, ev8, h⟩ := lI_inv h
      refine ew_lI d_XSearch_withInvariants_32 av8 bv8 cv8 ev8 ?_
      refine ew_iload_n 1 d_XSearch_withInvariants_33 rfl rfl ?_
      refine ew_icmp_ne 59 d_XSearch_withInvariants_34 (by decide) (fun c9 => ?_) (fun c9 => ?_)
      · rw [if_neg c9] at h
        exact E_XSearch_withInvariants_59 hn hl ih h
      · rw [if_pos c9] at h
        refine ew_lload d_XSearch_withInvariants_37 rfl ?_
        refine ew_aload_n 0 d_XSearch_withInvariants_39 rfl rfl ?_
        obtain ⟨v10, av10, bv10, h⟩ := gR_inv h
        refine ew_gR 7 2 d_XSearch_withInvariants_40 fl_XSearch_24 av10 bv10 ?_
        refine ew_aload_n 0 d_XSearch_withInvariants_43 rfl rfl ?_
        obtain ⟨v11, av11, bv11, h⟩ := gR_inv h
        refine ew_gR 7 1 d_XSearch_withInvariants_44 fl_XSearch_15 av11 bv11 ?_
        obtain ⟨v12, av12, bv12, h⟩ := gR_inv h
        refine ew_gR 6 0 d_XSearch_withInvariants_47 fl_XSearch_175 av12 bv12 ?_
        refine ew_iload d_XSearch_withInvariants_50 rfl ?_
        obtain ⟨v13, av13, bv13, cv13, ev13, h⟩ := lI_inv h
        refine ew_lI d_XSearch_withInvariants_52 av13 bv13 cv13 ev13 ?_
        obtain ⟨kM14, h⟩ := kO_inv h
        obtain ⟨v15, M14, hM14, h⟩ := cL_inv h
        refine ew_callV 4 [.int v13] d_XSearch_withInvariants_53 cv_XSearch_178 (T_XPlanes_truthOf hM14) kM14 (Nat.le_trans (Nat.le_of_ble_eq_true rfl) hn) (Nat.le_trans (Nat.le_of_ble_eq_true rfl) hl) (Nat.le_of_ble_eq_true rfl) rfl rfl ?_
        refine ew_land d_XSearch_withInvariants_56 ?_
        obtain ⟨v16, ev16, h⟩ := bL_inv h
        refine ew_topL ev16 ?_
        refine ew_lstore (L' := [(0, .ref l0), (1, .int l1), (4, .long v16), (6, .int l6)]) [1, 2, 0, 3] d_XSearch_withInvariants_57 (by decide) rfl ?_
        exact E_XSearch_withInvariants_59 hn hl ih h
def F_XSearch_withInvariants (n : Nat) (l0 : Nat) (l1 : Int32) (l2 : Int64) (M : PM) : qO :=
  F_XSearch_withInvariants_6 n n l0 l1 l2 (0 : Int32) M
set_option maxHeartbeats 4000000 in
set_option maxRecDepth 100000 in
theorem E_XSearch_withInvariants {g : qG} {X : qX} {Z : qZ} (hn : 1 ≤ zn Z) (hl : 21 ≤ zl Z) {n : Nat} {l0 : Nat} {l1 : Int32} {l2 : Int64} {M : PM} (h : F_XSearch_withInvariants n l0 l1 l2 M = some (zr Z, zf Z)) : EW Y_XSearch_withInvariants g X Z 0 [(0, .ref l0), (1, .int l1), (2, .long l2)] [] M := by
  unfold F_XSearch_withInvariants at h
  refine ew_lload_n 2 d_XSearch_withInvariants_0 rfl rfl ?_
  refine ew_lstore (L' := [(0, .ref l0), (1, .int l1), (2, .long l2), (4, .long l2)]) [1, 2, 3, 0] d_XSearch_withInvariants_1 (by decide) rfl ?_
  refine ew_iconst (0) d_XSearch_withInvariants_3 (by decide) ?_
  refine ew_istore (L' := [(0, .ref l0), (1, .int l1), (2, .long l2), (4, .long l2), (6, .int (0 : Int32))]) [1, 2, 3, 4, 0] d_XSearch_withInvariants_4 (by decide) rfl ?_
  exact ew_pick (L' := [(0, .ref l0), (1, .int l1), (4, .long l2), (6, .int (0 : Int32))]) [0, 1, 3, 4] rfl (E_XSearch_withInvariants_6 hn hl n l0 l1 l2 (0 : Int32) M h)
theorem T_XSearch_withInvariants {n : Nat} {l0 : Nat} {l1 : Int32} {l2 : Int64} {M Mf : PM} {res : qRs} (h : F_XSearch_withInvariants n l0 l1 l2 M = some (res, Mf)) : CT Y_XSearch_withInvariants 1 21 [.ref l0, .int l1, .long l2] M res Mf :=
  CT_of (by decide) (Nat.le_of_ble_eq_true rfl) (qHd_ne (by decide)) (fun g X ad0 => E_XSearch_withInvariants (g := g) (X := X) (Z := (ad0, M, res, Mf, 1, 21)) (Nat.le_refl _) (Nat.le_refl _) h)
theorem d_JLong_bitCount_0 : decode Y_JLong_bitCount.2.1 0 = .ok (.lload_n 0, 1) := by decide +kernel
theorem d_JLong_bitCount_1 : decode Y_JLong_bitCount.2.1 1 = .ok (.lload_n 0, 1) := by decide +kernel
theorem d_JLong_bitCount_2 : decode Y_JLong_bitCount.2.1 2 = .ok (.iconst 1, 1) := by decide +kernel
theorem d_JLong_bitCount_3 : decode Y_JLong_bitCount.2.1 3 = .ok (.lushr, 1) := by decide +kernel
theorem d_JLong_bitCount_4 : decode Y_JLong_bitCount.2.1 4 = .ok (.ldc2_w 314, 3) := by decide +kernel
theorem d_JLong_bitCount_7 : decode Y_JLong_bitCount.2.1 7 = .ok (.land, 1) := by decide +kernel
theorem d_JLong_bitCount_8 : decode Y_JLong_bitCount.2.1 8 = .ok (.lsub, 1) := by decide +kernel
theorem d_JLong_bitCount_9 : decode Y_JLong_bitCount.2.1 9 = .ok (.lstore_n 0, 1) := by decide +kernel
theorem d_JLong_bitCount_10 : decode Y_JLong_bitCount.2.1 10 = .ok (.lload_n 0, 1) := by decide +kernel
theorem d_JLong_bitCount_11 : decode Y_JLong_bitCount.2.1 11 = .ok (.ldc2_w 316, 3) := by decide +kernel
theorem d_JLong_bitCount_14 : decode Y_JLong_bitCount.2.1 14 = .ok (.land, 1) := by decide +kernel
theorem d_JLong_bitCount_15 : decode Y_JLong_bitCount.2.1 15 = .ok (.lload_n 0, 1) := by decide +kernel
theorem d_JLong_bitCount_16 : decode Y_JLong_bitCount.2.1 16 = .ok (.iconst 2, 1) := by decide +kernel
theorem d_JLong_bitCount_17 : decode Y_JLong_bitCount.2.1 17 = .ok (.lushr, 1) := by decide +kernel
theorem d_JLong_bitCount_18 : decode Y_JLong_bitCount.2.1 18 = .ok (.ldc2_w 316, 3) := by decide +kernel
theorem d_JLong_bitCount_21 : decode Y_JLong_bitCount.2.1 21 = .ok (.land, 1) := by decide +kernel
theorem d_JLong_bitCount_22 : decode Y_JLong_bitCount.2.1 22 = .ok (.ladd, 1) := by decide +kernel
theorem d_JLong_bitCount_23 : decode Y_JLong_bitCount.2.1 23 = .ok (.lstore_n 0, 1) := by decide +kernel
theorem d_JLong_bitCount_24 : decode Y_JLong_bitCount.2.1 24 = .ok (.lload_n 0, 1) := by decide +kernel
theorem d_JLong_bitCount_25 : decode Y_JLong_bitCount.2.1 25 = .ok (.lload_n 0, 1) := by decide +kernel
theorem d_JLong_bitCount_26 : decode Y_JLong_bitCount.2.1 26 = .ok (.iconst 4, 1) := by decide +kernel
theorem d_JLong_bitCount_27 : decode Y_JLong_bitCount.2.1 27 = .ok (.lushr, 1) := by decide +kernel
theorem d_JLong_bitCount_28 : decode Y_JLong_bitCount.2.1 28 = .ok (.ladd, 1) := by decide +kernel
theorem d_JLong_bitCount_29 : decode Y_JLong_bitCount.2.1 29 = .ok (.ldc2_w 318, 3) := by decide +kernel
theorem d_JLong_bitCount_32 : decode Y_JLong_bitCount.2.1 32 = .ok (.land, 1) := by decide +kernel
theorem d_JLong_bitCount_33 : decode Y_JLong_bitCount.2.1 33 = .ok (.lstore_n 0, 1) := by decide +kernel
theorem d_JLong_bitCount_34 : decode Y_JLong_bitCount.2.1 34 = .ok (.lload_n 0, 1) := by decide +kernel
theorem d_JLong_bitCount_35 : decode Y_JLong_bitCount.2.1 35 = .ok (.lload_n 0, 1) := by decide +kernel
theorem d_JLong_bitCount_36 : decode Y_JLong_bitCount.2.1 36 = .ok (.bipush (8), 2) := by decide +kernel
theorem d_JLong_bitCount_38 : decode Y_JLong_bitCount.2.1 38 = .ok (.lushr, 1) := by decide +kernel
theorem d_JLong_bitCount_39 : decode Y_JLong_bitCount.2.1 39 = .ok (.ladd, 1) := by decide +kernel
theorem d_JLong_bitCount_40 : decode Y_JLong_bitCount.2.1 40 = .ok (.lstore_n 0, 1) := by decide +kernel
theorem d_JLong_bitCount_41 : decode Y_JLong_bitCount.2.1 41 = .ok (.lload_n 0, 1) := by decide +kernel
theorem d_JLong_bitCount_42 : decode Y_JLong_bitCount.2.1 42 = .ok (.lload_n 0, 1) := by decide +kernel
theorem d_JLong_bitCount_43 : decode Y_JLong_bitCount.2.1 43 = .ok (.bipush (16), 2) := by decide +kernel
theorem d_JLong_bitCount_45 : decode Y_JLong_bitCount.2.1 45 = .ok (.lushr, 1) := by decide +kernel
theorem d_JLong_bitCount_46 : decode Y_JLong_bitCount.2.1 46 = .ok (.ladd, 1) := by decide +kernel
theorem d_JLong_bitCount_47 : decode Y_JLong_bitCount.2.1 47 = .ok (.lstore_n 0, 1) := by decide +kernel
theorem d_JLong_bitCount_48 : decode Y_JLong_bitCount.2.1 48 = .ok (.lload_n 0, 1) := by decide +kernel
theorem d_JLong_bitCount_49 : decode Y_JLong_bitCount.2.1 49 = .ok (.lload_n 0, 1) := by decide +kernel
theorem d_JLong_bitCount_50 : decode Y_JLong_bitCount.2.1 50 = .ok (.bipush (32), 2) := by decide +kernel
theorem d_JLong_bitCount_52 : decode Y_JLong_bitCount.2.1 52 = .ok (.lushr, 1) := by decide +kernel
theorem d_JLong_bitCount_53 : decode Y_JLong_bitCount.2.1 53 = .ok (.ladd, 1) := by decide +kernel
theorem d_JLong_bitCount_54 : decode Y_JLong_bitCount.2.1 54 = .ok (.lstore_n 0, 1) := by decide +kernel
theorem d_JLong_bitCount_55 : decode Y_JLong_bitCount.2.1 55 = .ok (.lload_n 0, 1) := by decide +kernel
theorem d_JLong_bitCount_56 : decode Y_JLong_bitCount.2.1 56 = .ok (.l2i, 1) := by decide +kernel
theorem d_JLong_bitCount_57 : decode Y_JLong_bitCount.2.1 57 = .ok (.bipush (127), 2) := by decide +kernel
theorem d_JLong_bitCount_59 : decode Y_JLong_bitCount.2.1 59 = .ok (.iand, 1) := by decide +kernel
theorem d_JLong_bitCount_60 : decode Y_JLong_bitCount.2.1 60 = .ok (.ireturn, 1) := by decide +kernel
def F_JLong_bitCount (n : Nat) (l0 : Int64) (M : PM) : qO :=
  bL (l0 - (((l0.toUInt64 >>> ((1 : Int32).toInt64.toUInt64 &&& Int64.toUInt64 63)).toInt64) &&& (6148914691236517205 : Int64))) (fun v1 =>
  bL ((v1 &&& (3689348814741910323 : Int64)) + (((v1.toUInt64 >>> ((2 : Int32).toInt64.toUInt64 &&& Int64.toUInt64 63)).toInt64) &&& (3689348814741910323 : Int64))) (fun v2 =>
  bL ((v2 + ((v2.toUInt64 >>> ((4 : Int32).toInt64.toUInt64 &&& Int64.toUInt64 63)).toInt64)) &&& (1085102592571150095 : Int64)) (fun v3 =>
  bL (v3 + ((v3.toUInt64 >>> ((8 : Int32).toInt64.toUInt64 &&& Int64.toUInt64 63)).toInt64)) (fun v4 =>
  bL (v4 + ((v4.toUInt64 >>> ((16 : Int32).toInt64.toUInt64 &&& Int64.toUInt64 63)).toInt64)) (fun v5 =>
  bL (v5 + ((v5.toUInt64 >>> ((32 : Int32).toInt64.toUInt64 &&& Int64.toUInt64 63)).toInt64)) (fun v6 =>
  some (.inl (some (.int (v6.toInt32 &&& (127 : Int32)))), M)))))))
set_option maxHeartbeats 4000000 in
set_option maxRecDepth 100000 in
theorem E_JLong_bitCount {g : qG} {X : qX} {Z : qZ} (hn : 0 ≤ zn Z) (hl : 0 ≤ zl Z) {n : Nat} {l0 : Int64} {M : PM} (h : F_JLong_bitCount n l0 M = some (zr Z, zf Z)) : EW Y_JLong_bitCount g X Z 0 [(0, .long l0)] [] M := by
  unfold F_JLong_bitCount at h
  refine ew_lload_n 0 d_JLong_bitCount_0 rfl rfl ?_
  refine ew_lload_n 0 d_JLong_bitCount_1 rfl rfl ?_
  refine ew_iconst (1) d_JLong_bitCount_2 (by decide) ?_
  refine ew_lushr d_JLong_bitCount_3 ?_
  refine ew_ldc2 (6148914691236517205) d_JLong_bitCount_4 ct_JLong_314 ?_
  refine ew_land d_JLong_bitCount_7 ?_
  refine ew_lsub d_JLong_bitCount_8 ?_
  obtain ⟨v1, ev1, h⟩ := bL_inv h
  refine ew_topL ev1 ?_
  refine ew_lstore_n (L' := [(0, .long v1)]) 0 [0] d_JLong_bitCount_9 rfl (by decide) rfl ?_
  refine ew_lload_n 0 d_JLong_bitCount_10 rfl rfl ?_
  refine ew_ldc2 (3689348814741910323) d_JLong_bitCount_11 ct_JLong_316 ?_
  refine ew_land d_JLong_bitCount_14 ?_
  refine ew_lload_n 0 d_JLong_bitCount_15 rfl rfl ?_
  refine ew_iconst (2) d_JLong_bitCount_16 (by decide) ?_
  refine ew_lushr d_JLong_bitCount_17 ?_
  refine ew_ldc2 (3689348814741910323) d_JLong_bitCount_18 ct_JLong_316 ?_
  refine ew_land d_JLong_bitCount_21 ?_
  refine ew_ladd d_JLong_bitCount_22 ?_
  obtain ⟨v2, ev2, h⟩ := bL_inv h
  refine ew_topL ev2 ?_
  refine ew_lstore_n (L' := [(0, .long v2)]) 0 [0] d_JLong_bitCount_23 rfl (by decide) rfl ?_
  refine ew_lload_n 0 d_JLong_bitCount_24 rfl rfl ?_
  refine ew_lload_n 0 d_JLong_bitCount_25 rfl rfl ?_
  refine ew_iconst (4) d_JLong_bitCount_26 (by decide) ?_
  refine ew_lushr d_JLong_bitCount_27 ?_
  refine ew_ladd d_JLong_bitCount_28 ?_
  refine ew_ldc2 (1085102592571150095) d_JLong_bitCount_29 ct_JLong_318 ?_
  refine ew_land d_JLong_bitCount_32 ?_
  obtain ⟨v3, ev3, h⟩ := bL_inv h
  refine ew_topL ev3 ?_
  refine ew_lstore_n (L' := [(0, .long v3)]) 0 [0] d_JLong_bitCount_33 rfl (by decide) rfl ?_
  refine ew_lload_n 0 d_JLong_bitCount_34 rfl rfl ?_
  refine ew_lload_n 0 d_JLong_bitCount_35 rfl rfl ?_
  refine ew_bipush (8) d_JLong_bitCount_36 (by decide +kernel) ?_
  refine ew_lushr d_JLong_bitCount_38 ?_
  refine ew_ladd d_JLong_bitCount_39 ?_
  obtain ⟨v4, ev4, h⟩ := bL_inv h
  refine ew_topL ev4 ?_
  refine ew_lstore_n (L' := [(0, .long v4)]) 0 [0] d_JLong_bitCount_40 rfl (by decide) rfl ?_
  refine ew_lload_n 0 d_JLong_bitCount_41 rfl rfl ?_
  refine ew_lload_n 0 d_JLong_bitCount_42 rfl rfl ?_
  refine ew_bipush (16) d_JLong_bitCount_43 (by decide +kernel) ?_
  refine ew_lushr d_JLong_bitCount_45 ?_
  refine ew_ladd d_JLong_bitCount_46 ?_
  obtain ⟨v5, ev5, h⟩ := bL_inv h
  refine ew_topL ev5 ?_
  refine ew_lstore_n (L' := [(0, .long v5)]) 0 [0] d_JLong_bitCount_47 rfl (by decide) rfl ?_
  refine ew_lload_n 0 d_JLong_bitCount_48 rfl rfl ?_
  refine ew_lload_n 0 d_JLong_bitCount_49 rfl rfl ?_
  refine ew_bipush (32) d_JLong_bitCount_50 (by decide +kernel) ?_
  refine ew_lushr d_JLong_bitCount_52 ?_
  refine ew_ladd d_JLong_bitCount_53 ?_
  obtain ⟨v6, ev6, h⟩ := bL_inv h
  refine ew_topL ev6 ?_
  refine ew_lstore_n (L' := [(0, .long v6)]) 0 [0] d_JLong_bitCount_54 rfl (by decide) rfl ?_
  refine ew_lload_n 0 d_JLong_bitCount_55 rfl rfl ?_
  refine ew_l2i d_JLong_bitCount_56 ?_
  refine ew_bipush (127) d_JLong_bitCount_57 (by decide +kernel) ?_
  refine ew_iand d_JLong_bitCount_59 ?_
  obtain ⟨hz, hm⟩ := Prod.mk.inj (Option.some.inj h)
  exact ew_ireturn d_JLong_bitCount_60 rfl hz.symm hm.symm
theorem T_JLong_bitCount {n : Nat} {l0 : Int64} {M Mf : PM} {res : qRs} (h : F_JLong_bitCount n l0 M = some (res, Mf)) : CT Y_JLong_bitCount 0 0 [.long l0] M res Mf :=
  CT_of (by decide) (Nat.le_of_ble_eq_true rfl) (qHd_ne (by decide)) (fun g X ad0 => E_JLong_bitCount (g := g) (X := X) (Z := (ad0, M, res, Mf, 0, 0)) (Nat.le_refl _) (Nat.le_refl _) h)
theorem d_XSearch_lowestClaim_0 : decode Y_XSearch_lowestClaim.2.1 0 = .ok (.iconst 0, 1) := by decide +kernel
theorem d_XSearch_lowestClaim_1 : decode Y_XSearch_lowestClaim.2.1 1 = .ok (.istore_n 2, 1) := by decide +kernel
theorem d_XSearch_lowestClaim_2 : decode Y_XSearch_lowestClaim.2.1 2 = .ok (.iload_n 2, 1) := by decide +kernel
theorem d_XSearch_lowestClaim_3 : decode Y_XSearch_lowestClaim.2.1 3 = .ok (.aload_n 0, 1) := by decide +kernel
theorem d_XSearch_lowestClaim_4 : decode Y_XSearch_lowestClaim.2.1 4 = .ok (.getfield 15, 3) := by decide +kernel
theorem d_XSearch_lowestClaim_7 : decode Y_XSearch_lowestClaim.2.1 7 = .ok (.getfield 202, 3) := by decide +kernel
theorem d_XSearch_lowestClaim_10 : decode Y_XSearch_lowestClaim.2.1 10 = .ok (.if_icmp .ge (36), 3) := by decide +kernel
theorem d_XSearch_lowestClaim_13 : decode Y_XSearch_lowestClaim.2.1 13 = .ok (.aload_n 0, 1) := by decide +kernel
theorem d_XSearch_lowestClaim_14 : decode Y_XSearch_lowestClaim.2.1 14 = .ok (.getfield 24, 3) := by decide +kernel
theorem d_XSearch_lowestClaim_17 : decode Y_XSearch_lowestClaim.2.1 17 = .ok (.aload_n 0, 1) := by decide +kernel
theorem d_XSearch_lowestClaim_18 : decode Y_XSearch_lowestClaim.2.1 18 = .ok (.getfield 15, 3) := by decide +kernel
theorem d_XSearch_lowestClaim_21 : decode Y_XSearch_lowestClaim.2.1 21 = .ok (.getfield 205, 3) := by decide +kernel
theorem d_XSearch_lowestClaim_24 : decode Y_XSearch_lowestClaim.2.1 24 = .ok (.iload_n 2, 1) := by decide +kernel
theorem d_XSearch_lowestClaim_25 : decode Y_XSearch_lowestClaim.2.1 25 = .ok (.iaload, 1) := by decide +kernel
theorem d_XSearch_lowestClaim_26 : decode Y_XSearch_lowestClaim.2.1 26 = .ok (.invokevirtual 178, 3) := by decide +kernel
theorem d_XSearch_lowestClaim_29 : decode Y_XSearch_lowestClaim.2.1 29 = .ok (.iload_n 1, 1) := by decide +kernel
theorem d_XSearch_lowestClaim_30 : decode Y_XSearch_lowestClaim.2.1 30 = .ok (.lushr, 1) := by decide +kernel
theorem d_XSearch_lowestClaim_31 : decode Y_XSearch_lowestClaim.2.1 31 = .ok (.lconst 1, 1) := by decide +kernel
theorem d_XSearch_lowestClaim_32 : decode Y_XSearch_lowestClaim.2.1 32 = .ok (.land, 1) := by decide +kernel
theorem d_XSearch_lowestClaim_33 : decode Y_XSearch_lowestClaim.2.1 33 = .ok (.lconst 1, 1) := by decide +kernel
theorem d_XSearch_lowestClaim_34 : decode Y_XSearch_lowestClaim.2.1 34 = .ok (.lcmp, 1) := by decide +kernel
theorem d_XSearch_lowestClaim_35 : decode Y_XSearch_lowestClaim.2.1 35 = .ok (.ifCond .ne (5), 3) := by decide +kernel
theorem d_XSearch_lowestClaim_38 : decode Y_XSearch_lowestClaim.2.1 38 = .ok (.iload_n 2, 1) := by decide +kernel
theorem d_XSearch_lowestClaim_39 : decode Y_XSearch_lowestClaim.2.1 39 = .ok (.ireturn, 1) := by decide +kernel
theorem d_XSearch_lowestClaim_40 : decode Y_XSearch_lowestClaim.2.1 40 = .ok (.iinc 2 (1), 3) := by decide +kernel
theorem d_XSearch_lowestClaim_43 : decode Y_XSearch_lowestClaim.2.1 43 = .ok (.goto (-41), 3) := by decide +kernel
theorem d_XSearch_lowestClaim_46 : decode Y_XSearch_lowestClaim.2.1 46 = .ok (.aload_n 0, 1) := by decide +kernel
theorem d_XSearch_lowestClaim_47 : decode Y_XSearch_lowestClaim.2.1 47 = .ok (.getfield 15, 3) := by decide +kernel
theorem d_XSearch_lowestClaim_50 : decode Y_XSearch_lowestClaim.2.1 50 = .ok (.getfield 202, 3) := by decide +kernel
theorem d_XSearch_lowestClaim_53 : decode Y_XSearch_lowestClaim.2.1 53 = .ok (.iconst 1, 1) := by decide +kernel
theorem d_XSearch_lowestClaim_54 : decode Y_XSearch_lowestClaim.2.1 54 = .ok (.isub, 1) := by decide +kernel
theorem d_XSearch_lowestClaim_55 : decode Y_XSearch_lowestClaim.2.1 55 = .ok (.ireturn, 1) := by decide +kernel
def F_XSearch_lowestClaim_2 (n : Nat) : Nat → Nat → Int32 → Int32 → PM → qO
  | 0, _, _, _, _ => none
  | f + 1, l0, l1, l2, M =>
    gR 7 M l0 1 (fun v1 =>
    gI 6 M v1 4 (fun v2 =>
    if v2 ≤ l2 then
      gR 7 M l0 1 (fun v4 =>
      gI 6 M v4 4 (fun v5 =>
      some (.inl (some (.int (v5 - (1 : Int32)))), M)))
    else
      gR 7 M l0 2 (fun v6 =>
      gR 7 M l0 1 (fun v7 =>
      gR 6 M v7 1 (fun v8 =>
      lI M v8 l2 (fun v9 =>
      kO 4 M v6 (
      cL (F_XPlanes_truthOf n v6 v9 M) (fun v11 M10 =>
      if (lg_cmp (((v11.toUInt64 >>> (l1.toInt64.toUInt64 &&& Int64.toUInt64 63)).toInt64) &&& (1 : Int64)) (1 : Int64)) = (0 : Int32) then
        some (.inl (some (.int l2)), M10)
      else
        bI (l2 + (1 : Int32)) (fun v13 =>
        (F_XSearch_lowestClaim_2 n f) l0 l1 v13 M10)))))))))
set_option maxHeartbeats 4000000 in
set_option maxRecDepth 100000 in
theorem E_XSearch_lowestClaim_2 {g : qG} {X : qX} {Z : qZ} (hn : 1 ≤ zn Z) (hl : 21 ≤ zl Z) {n : Nat} : ∀ (f : Nat) (l0 : Nat) (l1 : Int32) (l2 : Int32) (M : PM), F_XSearch_lowestClaim_2 n f l0 l1 l2 M = some (zr Z, zf Z) → EW Y_XSearch_lowestClaim g X Z 2 [(0, .ref l0), (1, .int l1), (2, .int l2)] [] M := by
  intro f
  induction f with
  | zero => intro l0 l1 l2 M h; rw [F_XSearch_lowestClaim_2] at h; cases h
  | succ f ih =>
    intro l0 l1 l2 M h
    rw [F_XSearch_lowestClaim_2] at h
    refine ew_iload_n 2 d_XSearch_lowestClaim_2 rfl rfl ?_
    refine ew_aload_n 0 d_XSearch_lowestClaim_3 rfl rfl ?_
    obtain ⟨v1, av1, bv1, h⟩ := gR_inv h
    refine ew_gR 7 1 d_XSearch_lowestClaim_4 fl_XSearch_15 av1 bv1 ?_
    obtain ⟨v2, av2, bv2, h⟩ := gI_inv h
    refine ew_gI 6 4 d_XSearch_lowestClaim_7 fl_XSearch_202 av2 bv2 ?_
    refine ew_icmp_ge 46 d_XSearch_lowestClaim_10 (by decide) (fun c3 => ?_) (fun c3 => ?_)
    · rw [if_pos c3] at h
      refine ew_aload_n 0 d_XSearch_lowestClaim_46 rfl rfl ?_
      obtain ⟨v4, av4, bv4, h⟩ := gR_inv h
      refine ew_gR 7 1 d_XSearch_lowestClaim_47 fl_XSearch_15 av4 bv4 ?_
      obtain ⟨v5, av5, bv5, h⟩ := gI_inv h
      refine ew_gI 6 4 d_XSearch_lowestClaim_50 fl_XSearch_202 av5 bv5 ?_
      refine ew_iconst (1) d_XSearch_lowestClaim_53 (by decide) ?_
      refine ew_isub d_XSearch_lowestClaim_54 ?_
      obtain ⟨hz, hm⟩ := Prod.mk.inj (Option.some.inj h)
      exact ew_ireturn d_XSearch_lowestClaim_55 rfl hz.symm hm.symm
    · rw [if_neg c3] at h
      refine ew_aload_n 0 d_XSearch_lowestClaim_13 rfl rfl ?_
      obtain ⟨v6, av6, bv6, h⟩ := gR_inv h
      refine ew_gR 7 2 d_XSearch_lowestClaim_14 fl_XSearch_24 av6 bv6 ?_
      refine ew_aload_n 0 d_XSearch_lowestClaim_17 rfl rfl ?_
      obtain ⟨v7, av7, bv7, h⟩ := gR_inv h
      refine ew_gR 7 1 d_XSearch_lowestClaim_18 fl_XSearch_15 av7 bv7 ?_
      obtain ⟨v8, av8, bv8, h⟩ := gR_inv h
      refine ew_gR 6 1 d_XSearch_lowestClaim_21 fl_XSearch_205 av8 bv8 ?_
      refine ew_iload_n 2 d_XSearch_lowestClaim_24 rfl rfl ?_
      obtain ⟨v9, av9, bv9, cv9, ev9, h⟩ := lI_inv h
      refine ew_lI d_XSearch_lowestClaim_25 av9 bv9 cv9 ev9 ?_
      obtain ⟨kM10, h⟩ := kO_inv h
      obtain ⟨v11, M10, hM10, h⟩ := cL_inv h
      refine ew_callV 4 [.int v9] d_XSearch_lowestClaim_26 cv_XSearch_178 (T_XPlanes_truthOf hM10) kM10 (Nat.le_trans (Nat.le_of_ble_eq_true rfl) hn) (Nat.le_trans (Nat.le_of_ble_eq_true rfl) hl) (Nat.le_of_ble_eq_true rfl) rfl rfl ?_
      refine ew_iload_n 1 d_XSearch_lowestClaim_29 rfl rfl ?_
      refine ew_lushr d_XSearch_lowestClaim_30 ?_
      refine ew_lconst 1 d_XSearch_lowestClaim_31 (by decide) ?_
      refine ew_land d_XSearch_lowestClaim_32 ?_
      refine ew_lconst 1 d_XSearch_lowestClaim_33 (by decide) ?_
      refine ew_lcmp d_XSearch_lowestClaim_34 ?_
      refine ew_if_ne 40 d_XSearch_lowestClaim_35 (by decide) (fun c12 => ?_) (fun c12 => ?_)
      · rw [if_neg c12] at h
        obtain ⟨v13, ev13, h⟩ := bI_inv h
        refine ew_iinc (L' := [(0, .ref l0), (1, .int l1), (2, .int v13)]) v13 [1, 2, 0] d_XSearch_lowestClaim_40 rfl (by rw [ev13]; rfl) (by decide) rfl ?_
        refine ew_goto 2 d_XSearch_lowestClaim_43 (by decide) ?_
        exact ih l0 l1 v13 M10 h
      · rw [if_pos c12] at h
        refine ew_iload_n 2 d_XSearch_lowestClaim_38 rfl rfl ?_
        obtain ⟨hz, hm⟩ := Prod.mk.inj (Option.some.inj h)
        exact ew_ireturn d_XSearch_lowestClaim_39 rfl hz.symm hm.symm
def F_XSearch_lowestClaim (n : Nat) (l0 : Nat) (l1 : Int32) (M : PM) : qO :=
  F_XSearch_lowestClaim_2 n n l0 l1 (0 : Int32) M
set_option maxHeartbeats 4000000 in
set_option maxRecDepth 100000 in
theorem E_XSearch_lowestClaim {g : qG} {X : qX} {Z : qZ} (hn : 1 ≤ zn Z) (hl : 21 ≤ zl Z) {n : Nat} {l0 : Nat} {l1 : Int32} {M : PM} (h : F_XSearch_lowestClaim n l0 l1 M = some (zr Z, zf Z)) : EW Y_XSearch_lowestClaim g X Z 0 [(0, .ref l0), (1, .int l1)] [] M := by
  unfold F_XSearch_lowestClaim at h
  refine ew_iconst (0) d_XSearch_lowestClaim_0 (by decide) ?_
  refine ew_istore_n (L' := [(0, .ref l0), (1, .int l1), (2, .int (0 : Int32))]) 2 [1, 2, 0] d_XSearch_lowestClaim_1 rfl (by decide) rfl ?_
  exact E_XSearch_lowestClaim_2 hn hl n l0 l1 (0 : Int32) M h
theorem T_XSearch_lowestClaim {n : Nat} {l0 : Nat} {l1 : Int32} {M Mf : PM} {res : qRs} (h : F_XSearch_lowestClaim n l0 l1 M = some (res, Mf)) : CT Y_XSearch_lowestClaim 1 21 [.ref l0, .int l1] M res Mf :=
  CT_of (by decide) (Nat.le_of_ble_eq_true rfl) (qHd_ne (by decide)) (fun g X ad0 => E_XSearch_lowestClaim (g := g) (X := X) (Z := (ad0, M, res, Mf, 1, 21)) (Nat.le_refl _) (Nat.le_refl _) h)
