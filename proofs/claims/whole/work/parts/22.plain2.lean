theorem d_XNodes_remakeAll_0 : decode Y_XNodes_remakeAll.2.1 0 = .ok (.iconst 0, 1) := by decide +kernel
theorem d_XNodes_remakeAll_1 : decode Y_XNodes_remakeAll.2.1 1 = .ok (.istore_n 3, 1) := by decide +kernel
theorem d_XNodes_remakeAll_2 : decode Y_XNodes_remakeAll.2.1 2 = .ok (.iload_n 3, 1) := by decide +kernel
theorem d_XNodes_remakeAll_3 : decode Y_XNodes_remakeAll.2.1 3 = .ok (.aload_n 1, 1) := by decide +kernel
theorem d_XNodes_remakeAll_4 : decode Y_XNodes_remakeAll.2.1 4 = .ok (.getfield 40, 3) := by decide +kernel
theorem d_XNodes_remakeAll_7 : decode Y_XNodes_remakeAll.2.1 7 = .ok (.if_icmp .ge (163), 3) := by decide +kernel
theorem d_XNodes_remakeAll_10 : decode Y_XNodes_remakeAll.2.1 10 = .ok (.iload_n 3, 1) := by decide +kernel
theorem d_XNodes_remakeAll_11 : decode Y_XNodes_remakeAll.2.1 11 = .ok (.aload_n 2, 1) := by decide +kernel
theorem d_XNodes_remakeAll_12 : decode Y_XNodes_remakeAll.2.1 12 = .ok (.arraylength, 1) := by decide +kernel
theorem d_XNodes_remakeAll_13 : decode Y_XNodes_remakeAll.2.1 13 = .ok (.if_icmp .ge (157), 3) := by decide +kernel
theorem d_XNodes_remakeAll_16 : decode Y_XNodes_remakeAll.2.1 16 = .ok (.aload_n 2, 1) := by decide +kernel
theorem d_XNodes_remakeAll_17 : decode Y_XNodes_remakeAll.2.1 17 = .ok (.aload_n 1, 1) := by decide +kernel
theorem d_XNodes_remakeAll_18 : decode Y_XNodes_remakeAll.2.1 18 = .ok (.getfield 15, 3) := by decide +kernel
theorem d_XNodes_remakeAll_21 : decode Y_XNodes_remakeAll.2.1 21 = .ok (.iload_n 3, 1) := by decide +kernel
theorem d_XNodes_remakeAll_22 : decode Y_XNodes_remakeAll.2.1 22 = .ok (.iaload, 1) := by decide +kernel
theorem d_XNodes_remakeAll_23 : decode Y_XNodes_remakeAll.2.1 23 = .ok (.invokestatic 75, 3) := by decide +kernel
theorem d_XNodes_remakeAll_26 : decode Y_XNodes_remakeAll.2.1 26 = .ok (.istore 4, 2) := by decide +kernel
theorem d_XNodes_remakeAll_28 : decode Y_XNodes_remakeAll.2.1 28 = .ok (.aload_n 2, 1) := by decide +kernel
theorem d_XNodes_remakeAll_29 : decode Y_XNodes_remakeAll.2.1 29 = .ok (.aload_n 1, 1) := by decide +kernel
theorem d_XNodes_remakeAll_30 : decode Y_XNodes_remakeAll.2.1 30 = .ok (.getfield 18, 3) := by decide +kernel
theorem d_XNodes_remakeAll_33 : decode Y_XNodes_remakeAll.2.1 33 = .ok (.iload_n 3, 1) := by decide +kernel
theorem d_XNodes_remakeAll_34 : decode Y_XNodes_remakeAll.2.1 34 = .ok (.iaload, 1) := by decide +kernel
theorem d_XNodes_remakeAll_35 : decode Y_XNodes_remakeAll.2.1 35 = .ok (.invokestatic 75, 3) := by decide +kernel
theorem d_XNodes_remakeAll_38 : decode Y_XNodes_remakeAll.2.1 38 = .ok (.istore 5, 2) := by decide +kernel
theorem d_XNodes_remakeAll_40 : decode Y_XNodes_remakeAll.2.1 40 = .ok (.aload_n 1, 1) := by decide +kernel
theorem d_XNodes_remakeAll_41 : decode Y_XNodes_remakeAll.2.1 41 = .ok (.getfield 9, 3) := by decide +kernel
theorem d_XNodes_remakeAll_44 : decode Y_XNodes_remakeAll.2.1 44 = .ok (.iload_n 3, 1) := by decide +kernel
theorem d_XNodes_remakeAll_45 : decode Y_XNodes_remakeAll.2.1 45 = .ok (.iaload, 1) := by decide +kernel
theorem d_XNodes_remakeAll_46 : decode Y_XNodes_remakeAll.2.1 46 = .ok (.tableswitch (118) 5 9 #[34, 54, 68, 80, 94], 34) := by decide +kernel
theorem d_XNodes_remakeAll_80 : decode Y_XNodes_remakeAll.2.1 80 = .ok (.aload_n 2, 1) := by decide +kernel
theorem d_XNodes_remakeAll_81 : decode Y_XNodes_remakeAll.2.1 81 = .ok (.iload_n 3, 1) := by decide +kernel
theorem d_XNodes_remakeAll_82 : decode Y_XNodes_remakeAll.2.1 82 = .ok (.aload_n 0, 1) := by decide +kernel
theorem d_XNodes_remakeAll_83 : decode Y_XNodes_remakeAll.2.1 83 = .ok (.aload_n 1, 1) := by decide +kernel
theorem d_XNodes_remakeAll_84 : decode Y_XNodes_remakeAll.2.1 84 = .ok (.getfield 21, 3) := by decide +kernel
theorem d_XNodes_remakeAll_87 : decode Y_XNodes_remakeAll.2.1 87 = .ok (.iload_n 3, 1) := by decide +kernel
theorem d_XNodes_remakeAll_88 : decode Y_XNodes_remakeAll.2.1 88 = .ok (.iaload, 1) := by decide +kernel
theorem d_XNodes_remakeAll_89 : decode Y_XNodes_remakeAll.2.1 89 = .ok (.iload 4, 2) := by decide +kernel
theorem d_XNodes_remakeAll_91 : decode Y_XNodes_remakeAll.2.1 91 = .ok (.iload 5, 2) := by decide +kernel
theorem d_XNodes_remakeAll_93 : decode Y_XNodes_remakeAll.2.1 93 = .ok (.invokevirtual 79, 3) := by decide +kernel
theorem d_XNodes_remakeAll_96 : decode Y_XNodes_remakeAll.2.1 96 = .ok (.iastore, 1) := by decide +kernel
theorem d_XNodes_remakeAll_97 : decode Y_XNodes_remakeAll.2.1 97 = .ok (.goto (67), 3) := by decide +kernel
theorem d_XNodes_remakeAll_100 : decode Y_XNodes_remakeAll.2.1 100 = .ok (.aload_n 2, 1) := by decide +kernel
theorem d_XNodes_remakeAll_101 : decode Y_XNodes_remakeAll.2.1 101 = .ok (.iload_n 3, 1) := by decide +kernel
theorem d_XNodes_remakeAll_102 : decode Y_XNodes_remakeAll.2.1 102 = .ok (.aload_n 0, 1) := by decide +kernel
theorem d_XNodes_remakeAll_103 : decode Y_XNodes_remakeAll.2.1 103 = .ok (.iload 4, 2) := by decide +kernel
theorem d_XNodes_remakeAll_105 : decode Y_XNodes_remakeAll.2.1 105 = .ok (.iload 5, 2) := by decide +kernel
theorem d_XNodes_remakeAll_107 : decode Y_XNodes_remakeAll.2.1 107 = .ok (.invokevirtual 64, 3) := by decide +kernel
theorem d_XNodes_remakeAll_110 : decode Y_XNodes_remakeAll.2.1 110 = .ok (.iastore, 1) := by decide +kernel
theorem d_XNodes_remakeAll_111 : decode Y_XNodes_remakeAll.2.1 111 = .ok (.goto (53), 3) := by decide +kernel
theorem d_XNodes_remakeAll_114 : decode Y_XNodes_remakeAll.2.1 114 = .ok (.aload_n 2, 1) := by decide +kernel
theorem d_XNodes_remakeAll_115 : decode Y_XNodes_remakeAll.2.1 115 = .ok (.iload_n 3, 1) := by decide +kernel
theorem d_XNodes_remakeAll_116 : decode Y_XNodes_remakeAll.2.1 116 = .ok (.aload_n 0, 1) := by decide +kernel
theorem d_XNodes_remakeAll_117 : decode Y_XNodes_remakeAll.2.1 117 = .ok (.iload 4, 2) := by decide +kernel
theorem d_XNodes_remakeAll_119 : decode Y_XNodes_remakeAll.2.1 119 = .ok (.invokevirtual 67, 3) := by decide +kernel
theorem d_XNodes_remakeAll_122 : decode Y_XNodes_remakeAll.2.1 122 = .ok (.iastore, 1) := by decide +kernel
theorem d_XNodes_remakeAll_123 : decode Y_XNodes_remakeAll.2.1 123 = .ok (.goto (41), 3) := by decide +kernel
theorem d_XNodes_remakeAll_126 : decode Y_XNodes_remakeAll.2.1 126 = .ok (.aload_n 2, 1) := by decide +kernel
theorem d_XNodes_remakeAll_127 : decode Y_XNodes_remakeAll.2.1 127 = .ok (.iload_n 3, 1) := by decide +kernel
theorem d_XNodes_remakeAll_128 : decode Y_XNodes_remakeAll.2.1 128 = .ok (.aload_n 0, 1) := by decide +kernel
theorem d_XNodes_remakeAll_129 : decode Y_XNodes_remakeAll.2.1 129 = .ok (.iload 4, 2) := by decide +kernel
theorem d_XNodes_remakeAll_131 : decode Y_XNodes_remakeAll.2.1 131 = .ok (.iload 5, 2) := by decide +kernel
theorem d_XNodes_remakeAll_133 : decode Y_XNodes_remakeAll.2.1 133 = .ok (.invokevirtual 82, 3) := by decide +kernel
theorem d_XNodes_remakeAll_136 : decode Y_XNodes_remakeAll.2.1 136 = .ok (.iastore, 1) := by decide +kernel
theorem d_XNodes_remakeAll_137 : decode Y_XNodes_remakeAll.2.1 137 = .ok (.goto (27), 3) := by decide +kernel
theorem d_XNodes_remakeAll_140 : decode Y_XNodes_remakeAll.2.1 140 = .ok (.aload_n 2, 1) := by decide +kernel
theorem d_XNodes_remakeAll_141 : decode Y_XNodes_remakeAll.2.1 141 = .ok (.iload_n 3, 1) := by decide +kernel
theorem d_XNodes_remakeAll_142 : decode Y_XNodes_remakeAll.2.1 142 = .ok (.aload_n 0, 1) := by decide +kernel
theorem d_XNodes_remakeAll_143 : decode Y_XNodes_remakeAll.2.1 143 = .ok (.iload 4, 2) := by decide +kernel
theorem d_XNodes_remakeAll_145 : decode Y_XNodes_remakeAll.2.1 145 = .ok (.iload 5, 2) := by decide +kernel
theorem d_XNodes_remakeAll_147 : decode Y_XNodes_remakeAll.2.1 147 = .ok (.aload_n 2, 1) := by decide +kernel
theorem d_XNodes_remakeAll_148 : decode Y_XNodes_remakeAll.2.1 148 = .ok (.aload_n 1, 1) := by decide +kernel
theorem d_XNodes_remakeAll_149 : decode Y_XNodes_remakeAll.2.1 149 = .ok (.getfield 21, 3) := by decide +kernel
theorem d_XNodes_remakeAll_152 : decode Y_XNodes_remakeAll.2.1 152 = .ok (.iload_n 3, 1) := by decide +kernel
theorem d_XNodes_remakeAll_153 : decode Y_XNodes_remakeAll.2.1 153 = .ok (.iaload, 1) := by decide +kernel
theorem d_XNodes_remakeAll_154 : decode Y_XNodes_remakeAll.2.1 154 = .ok (.invokestatic 75, 3) := by decide +kernel
theorem d_XNodes_remakeAll_157 : decode Y_XNodes_remakeAll.2.1 157 = .ok (.invokevirtual 71, 3) := by decide +kernel
theorem d_XNodes_remakeAll_160 : decode Y_XNodes_remakeAll.2.1 160 = .ok (.iastore, 1) := by decide +kernel
theorem d_XNodes_remakeAll_161 : decode Y_XNodes_remakeAll.2.1 161 = .ok (.goto (3), 3) := by decide +kernel
theorem d_XNodes_remakeAll_164 : decode Y_XNodes_remakeAll.2.1 164 = .ok (.iinc 3 (1), 3) := by decide +kernel
theorem d_XNodes_remakeAll_167 : decode Y_XNodes_remakeAll.2.1 167 = .ok (.goto (-165), 3) := by decide +kernel
theorem d_XNodes_remakeAll_170 : decode Y_XNodes_remakeAll.2.1 170 = .ok (.return_, 1) := by decide +kernel
def F_XNodes_remakeAll_170 (n : Nat) (M : PM) : qO :=
  some (.inl none, M)
set_option maxHeartbeats 4000000 in
set_option maxRecDepth 100000 in
theorem E_XNodes_remakeAll_170 {g : qG} {X : qX} {Z : qZ} (hn : 3 ≤ zn Z) (hl : 72 ≤ zl Z) {n : Nat} {M : PM} (h : F_XNodes_remakeAll_170 n M = some (zr Z, zf Z)) : EW Y_XNodes_remakeAll g X Z 170 [] [] M := by
  unfold F_XNodes_remakeAll_170 at h
  obtain ⟨hz, hm⟩ := Prod.mk.inj (Option.some.inj h)
  exact ew_return d_XNodes_remakeAll_170 rfl hz.symm hm.symm
def F_XNodes_remakeAll_164 (n : Nat) (rec2 : Nat → Nat → Nat → Int32 → PM → qO) (l0 : Nat) (l1 : Nat) (l2 : Nat) (l3 : Int32) (M : PM) : qO :=
  bI (l3 + (1 : Int32)) (fun v1 =>
  rec2 l0 l1 l2 v1 M)
set_option maxHeartbeats 4000000 in
set_option maxRecDepth 100000 in
theorem E_XNodes_remakeAll_164 {g : qG} {X : qX} {Z : qZ} (hn : 3 ≤ zn Z) (hl : 72 ≤ zl Z) {n : Nat} {rec2 : Nat → Nat → Nat → Int32 → PM → qO} (hrec2 : ∀ (l0 : Nat) (l1 : Nat) (l2 : Nat) (l3 : Int32) (M : PM), rec2 l0 l1 l2 l3 M = some (zr Z, zf Z) → EW Y_XNodes_remakeAll g X Z 2 [(0, .ref l0), (1, .ref l1), (2, .ref l2), (3, .int l3)] [] M) {l0 : Nat} {l1 : Nat} {l2 : Nat} {l3 : Int32} {M : PM} (h : F_XNodes_remakeAll_164 n rec2 l0 l1 l2 l3 M = some (zr Z, zf Z)) : EW Y_XNodes_remakeAll g X Z 164 [(0, .ref l0), (1, .ref l1), (2, .ref l2), (3, .int l3)] [] M := by
  unfold F_XNodes_remakeAll_164 at h
  obtain ⟨v1, ev1, h⟩ := bI_inv h
  refine ew_iinc (L' := [(0, .ref l0), (1, .ref l1), (2, .ref l2), (3, .int v1)]) v1 [1, 2, 3, 0] d_XNodes_remakeAll_164 rfl (by rw [ev1]; rfl) (by decide) rfl ?_
  refine ew_goto 2 d_XNodes_remakeAll_167 (by decide) ?_
  exact hrec2 l0 l1 l2 v1 M h
def F_XNodes_remakeAll_2 (n : Nat) : Nat → Nat → Nat → Nat → Int32 → PM → qO
  | 0, _, _, _, _, _ => none
  | f + 1, l0, l1, l2, l3, M =>
    gI 3 M l1 7 (fun v1 =>
    if v1 ≤ l3 then
      F_XNodes_remakeAll_170 n M
    else
      aL M l2 (fun v3 =>
      if v3 ≤ l3 then
        F_XNodes_remakeAll_170 n M
      else
        gR 3 M l1 1 (fun v5 =>
        lI M v5 l3 (fun v6 =>
        cI (F_XNodes_imageOf n l2 v6 M) (fun v8 M7 =>
        gR 3 M7 l1 2 (fun v9 =>
        lI M7 v9 l3 (fun v10 =>
        cI (F_XNodes_imageOf n l2 v10 M7) (fun v12 M11 =>
        gR 3 M11 l1 0 (fun v13 =>
        lI M11 v13 l3 (fun v14 =>
        if v14 = (5 : Int32) then
          gR 3 M11 l1 3 (fun v16 =>
          lI M11 v16 l3 (fun v17 =>
          kO 3 M11 l0 (
          cI (F_XNodes_makeApplication n l0 v17 v8 v12 M11) (fun v19 M18 =>
          wI M18 l2 l3 v19 (fun M20 =>
          F_XNodes_remakeAll_164 n (F_XNodes_remakeAll_2 n f) l0 l1 l2 l3 M20)))))
        else
        if v14 = (6 : Int32) then
          kO 3 M11 l0 (
          cI (F_XNodes_makeEquality n l0 v8 v12 M11) (fun v23 M22 =>
          wI M22 l2 l3 v23 (fun M24 =>
          F_XNodes_remakeAll_164 n (F_XNodes_remakeAll_2 n f) l0 l1 l2 l3 M24)))
        else
        if v14 = (7 : Int32) then
          kO 3 M11 l0 (
          cI (F_XNodes_makeNot n l0 v8 M11) (fun v27 M26 =>
          wI M26 l2 l3 v27 (fun M28 =>
          F_XNodes_remakeAll_164 n (F_XNodes_remakeAll_2 n f) l0 l1 l2 l3 M28)))
        else
        if v14 = (8 : Int32) then
          kO 3 M11 l0 (
          cI (F_XNodes_makeBoth n l0 v8 v12 M11) (fun v31 M30 =>
          wI M30 l2 l3 v31 (fun M32 =>
          F_XNodes_remakeAll_164 n (F_XNodes_remakeAll_2 n f) l0 l1 l2 l3 M32)))
        else
        if v14 = (9 : Int32) then
          gR 3 M11 l1 3 (fun v34 =>
          lI M11 v34 l3 (fun v35 =>
          cI (F_XNodes_imageOf n l2 v35 M11) (fun v37 M36 =>
          kO 3 M36 l0 (
          cI (F_XNodes_makeChoice n l0 v8 v12 v37 M36) (fun v39 M38 =>
          wI M38 l2 l3 v39 (fun M40 =>
          F_XNodes_remakeAll_164 n (F_XNodes_remakeAll_2 n f) l0 l1 l2 l3 M40))))))
        else
          F_XNodes_remakeAll_164 n (F_XNodes_remakeAll_2 n f) l0 l1 l2 l3 M11))))))))))
set_option maxHeartbeats 4000000 in
set_option maxRecDepth 100000 in
theorem E_XNodes_remakeAll_2 {g : qG} {X : qX} {Z : qZ} (hn : 3 ≤ zn Z) (hl : 72 ≤ zl Z) {n : Nat} : ∀ (f : Nat) (l0 : Nat) (l1 : Nat) (l2 : Nat) (l3 : Int32) (M : PM), F_XNodes_remakeAll_2 n f l0 l1 l2 l3 M = some (zr Z, zf Z) → EW Y_XNodes_remakeAll g X Z 2 [(0, .ref l0), (1, .ref l1), (2, .ref l2), (3, .int l3)] [] M := by
  intro f
  induction f with
  | zero => intro l0 l1 l2 l3 M h; rw [F_XNodes_remakeAll_2] at h; cases h
  | succ f ih =>
    intro l0 l1 l2 l3 M h
    rw [F_XNodes_remakeAll_2] at h
    refine ew_iload_n 3 d_XNodes_remakeAll_2 rfl rfl ?_
    refine ew_aload_n 1 d_XNodes_remakeAll_3 rfl rfl ?_
    obtain ⟨v1, av1, bv1, h⟩ := gI_inv h
    refine ew_gI 3 7 d_XNodes_remakeAll_4 fl_XNodes_40 av1 bv1 ?_
    refine ew_icmp_ge 170 d_XNodes_remakeAll_7 (by decide) (fun c2 => ?_) (fun c2 => ?_)
    · rw [if_pos c2] at h
      exact ew_pick (L' := []) [] rfl (E_XNodes_remakeAll_170 hn hl h)
    · rw [if_neg c2] at h
      refine ew_iload_n 3 d_XNodes_remakeAll_10 rfl rfl ?_
      refine ew_aload_n 2 d_XNodes_remakeAll_11 rfl rfl ?_
      obtain ⟨v3, av3, ev3, h⟩ := aL_inv h
      refine ew_aL d_XNodes_remakeAll_12 av3 ev3 ?_
      refine ew_icmp_ge 170 d_XNodes_remakeAll_13 (by decide) (fun c4 => ?_) (fun c4 => ?_)
      · rw [if_pos c4] at h
        exact ew_pick (L' := []) [] rfl (E_XNodes_remakeAll_170 hn hl h)
      · rw [if_neg c4] at h
        refine ew_aload_n 2 d_XNodes_remakeAll_16 rfl rfl ?_
        refine ew_aload_n 1 d_XNodes_remakeAll_17 rfl rfl ?_
        obtain ⟨v5, av5, bv5, h⟩ := gR_inv h
        refine ew_gR 3 1 d_XNodes_remakeAll_18 fl_XNodes_15 av5 bv5 ?_
        refine ew_iload_n 3 d_XNodes_remakeAll_21 rfl rfl ?_
        obtain ⟨v6, av6, bv6, cv6, ev6, h⟩ := lI_inv h
        refine ew_lI d_XNodes_remakeAll_22 av6 bv6 cv6 ev6 ?_
        obtain ⟨v8, M7, hM7, h⟩ := cI_inv h
        refine ew_callS [.ref l2, .int v6] d_XNodes_remakeAll_23 cs_XNodes_75 (T_XNodes_imageOf hM7) (Nat.le_trans (Nat.le_of_ble_eq_true rfl) hn) (Nat.le_trans (Nat.le_of_ble_eq_true rfl) hl) (Nat.le_of_ble_eq_true rfl) rfl rfl ?_
        refine ew_istore (L' := [(0, .ref l0), (1, .ref l1), (2, .ref l2), (3, .int l3), (4, .int v8)]) [1, 2, 3, 4, 0] d_XNodes_remakeAll_26 (by decide) rfl ?_
        refine ew_aload_n 2 d_XNodes_remakeAll_28 rfl rfl ?_
        refine ew_aload_n 1 d_XNodes_remakeAll_29 rfl rfl ?_
        obtain ⟨v9, av9, bv9, h⟩ := gR_inv h
        refine ew_gR 3 2 d_XNodes_remakeAll_30 fl_XNodes_18 av9 bv9 ?_
        refine ew_iload_n 3 d_XNodes_remakeAll_33 rfl rfl ?_
        obtain ⟨v10, av10, bv10, cv10, ev10, h⟩ := lI_inv h
        refine ew_lI d_XNodes_remakeAll_34 av10 bv10 cv10 ev10 ?_
        obtain ⟨v12, M11, hM11, h⟩ := cI_inv h
        refine ew_callS [.ref l2, .int v10] d_XNodes_remakeAll_35 cs_XNodes_75 (T_XNodes_imageOf hM11) (Nat.le_trans (Nat.le_of_ble_eq_true rfl) hn) (Nat.le_trans (Nat.le_of_ble_eq_true rfl) hl) (Nat.le_of_ble_eq_true rfl) rfl rfl ?_
        refine ew_istore (L' := [(0, .ref l0), (1, .ref l1), (2, .ref l2), (3, .int l3), (4, .int v8), (5, .int v12)]) [1, 2, 3, 4, 5, 0] d_XNodes_remakeAll_38 (by decide) rfl ?_
        refine ew_aload_n 1 d_XNodes_remakeAll_40 rfl rfl ?_
        obtain ⟨v13, av13, bv13, h⟩ := gR_inv h
        refine ew_gR 3 0 d_XNodes_remakeAll_41 fl_XNodes_9 av13 bv13 ?_
        refine ew_iload_n 3 d_XNodes_remakeAll_44 rfl rfl ?_
        obtain ⟨v14, av14, bv14, cv14, ev14, h⟩ := lI_inv h
        refine ew_lI d_XNodes_remakeAll_45 av14 bv14 cv14 ev14 ?_
        refine (Classical.em (v14 = (5 : Int32))).elim (fun c15 => ?_) (fun c15 => ?_)
        · rw [if_pos c15] at h
          refine ew_swIn 80 d_XNodes_remakeAll_46 (by rw [c15]; decide) (by rw [c15]; decide) (by rw [c15]; rfl) (by decide) ?_
          refine ew_aload_n 2 d_XNodes_remakeAll_80 rfl rfl ?_
          refine ew_iload_n 3 d_XNodes_remakeAll_81 rfl rfl ?_
          refine ew_aload_n 0 d_XNodes_remakeAll_82 rfl rfl ?_
          refine ew_aload_n 1 d_XNodes_remakeAll_83 rfl rfl ?_
          obtain ⟨v16, av16, bv16, h⟩ := gR_inv h
          refine ew_gR 3 3 d_XNodes_remakeAll_84 fl_XNodes_21 av16 bv16 ?_
          refine ew_iload_n 3 d_XNodes_remakeAll_87 rfl rfl ?_
          obtain ⟨v17, av17, bv17, cv17, ev17, h⟩ := lI_inv h
          refine ew_lI d_XNodes_remakeAll_88 av17 bv17 cv17 ev17 ?_
          refine ew_iload d_XNodes_remakeAll_89 rfl ?_
          refine ew_iload d_XNodes_remakeAll_91 rfl ?_
          obtain ⟨kM18, h⟩ := kO_inv h
          obtain ⟨v19, M18, hM18, h⟩ := cI_inv h
          refine ew_callV 3 [.int v17, .int v8, .int v12] d_XNodes_remakeAll_93 cv_XNodes_79 (T_XNodes_makeApplication hM18) kM18 (Nat.le_trans (Nat.le_of_ble_eq_true rfl) hn) (Nat.le_trans (Nat.le_of_ble_eq_true rfl) hl) (Nat.le_of_ble_eq_true rfl) rfl rfl ?_
          obtain ⟨M20, aM20, bM20, cM20, eM20, h⟩ := wI_inv h
          refine ew_wI d_XNodes_remakeAll_96 aM20 bM20 cM20 eM20 ?_
          refine ew_goto 164 d_XNodes_remakeAll_97 (by decide) ?_
          exact ew_pick (L' := [(0, .ref l0), (1, .ref l1), (2, .ref l2), (3, .int l3)]) [0, 1, 2, 3] rfl (E_XNodes_remakeAll_164 hn hl ih h)
        rw [if_neg c15] at h
        refine (Classical.em (v14 = (6 : Int32))).elim (fun c21 => ?_) (fun c21 => ?_)
        · rw [if_pos c21] at h
          refine ew_swIn 100 d_XNodes_remakeAll_46 (by rw [c21]; decide) (by rw [c21]; decide) (by rw [c21]; rfl) (by decide) ?_
          refine ew_aload_n 2 d_XNodes_remakeAll_100 rfl rfl ?_
          refine ew_iload_n 3 d_XNodes_remakeAll_101 rfl rfl ?_
          refine ew_aload_n 0 d_XNodes_remakeAll_102 rfl rfl ?_
          refine ew_iload d_XNodes_remakeAll_103 rfl ?_
          refine ew_iload d_XNodes_remakeAll_105 rfl ?_
          obtain ⟨kM22, h⟩ := kO_inv h
          obtain ⟨v23, M22, hM22, h⟩ := cI_inv h
          refine ew_callV 3 [.int v8, .int v12] d_XNodes_remakeAll_107 cv_XNodes_64 (T_XNodes_makeEquality hM22) kM22 (Nat.le_trans (Nat.le_of_ble_eq_true rfl) hn) (Nat.le_trans (Nat.le_of_ble_eq_true rfl) hl) (Nat.le_of_ble_eq_true rfl) rfl rfl ?_
          obtain ⟨M24, aM24, bM24, cM24, eM24, h⟩ := wI_inv h
          refine ew_wI d_XNodes_remakeAll_110 aM24 bM24 cM24 eM24 ?_
          refine ew_goto 164 d_XNodes_remakeAll_111 (by decide) ?_
          exact ew_pick (L' := [(0, .ref l0), (1, .ref l1), (2, .ref l2), (3, .int l3)]) [0, 1, 2, 3] rfl (E_XNodes_remakeAll_164 hn hl ih h)
        rw [if_neg c21] at h
        refine (Classical.em (v14 = (7 : Int32))).elim (fun c25 => ?_) (fun c25 => ?_)
        · rw [if_pos c25] at h
          refine ew_swIn 114 d_XNodes_remakeAll_46 (by rw [c25]; decide) (by rw [c25]; decide) (by rw [c25]; rfl) (by decide) ?_
          refine ew_aload_n 2 d_XNodes_remakeAll_114 rfl rfl ?_
          refine ew_iload_n 3 d_XNodes_remakeAll_115 rfl rfl ?_
          refine ew_aload_n 0 d_XNodes_remakeAll_116 rfl rfl ?_
          refine ew_iload d_XNodes_remakeAll_117 rfl ?_
          obtain ⟨kM26, h⟩ := kO_inv h
          obtain ⟨v27, M26, hM26, h⟩ := cI_inv h
          refine ew_callV 3 [.int v8] d_XNodes_remakeAll_119 cv_XNodes_67 (T_XNodes_makeNot hM26) kM26 (Nat.le_trans (Nat.le_of_ble_eq_true rfl) hn) (Nat.le_trans (Nat.le_of_ble_eq_true rfl) hl) (Nat.le_of_ble_eq_true rfl) rfl rfl ?_
          obtain ⟨M28, aM28, bM28, cM28, eM28, h⟩ := wI_inv h
          refine ew_wI d_XNodes_remakeAll_122 aM28 bM28 cM28 eM28 ?_
          refine ew_goto 164 d_XNodes_remakeAll_123 (by decide) ?_
          exact ew_pick (L' := [(0, .ref l0), (1, .ref l1), (2, .ref l2), (3, .int l3)]) [0, 1, 2, 3] rfl (E_XNodes_remakeAll_164 hn hl ih h)
        rw [if_neg c25] at h
        refine (Classical.em (v14 = (8 : Int32))).elim (fun c29 => ?_) (fun c29 => ?_)
        · rw [if_pos c29] at h
          refine ew_swIn 126 d_XNodes_remakeAll_46 (by rw [c29]; decide) (by rw [c29]; decide) (by rw [c29]; rfl) (by decide) ?_
          refine ew_aload_n 2 d_XNodes_remakeAll_126 rfl rfl ?_
          refine ew_iload_n 3 d_XNodes_remakeAll_127 rfl rfl ?_
          refine ew_aload_n 0 d_XNodes_remakeAll_128 rfl rfl ?_
          refine ew_iload d_XNodes_remakeAll_129 rfl ?_
          refine ew_iload d_XNodes_remakeAll_131 rfl ?_
          obtain ⟨kM30, h⟩ := kO_inv h
          obtain ⟨v31, M30, hM30, h⟩ := cI_inv h
          refine ew_callV 3 [.int v8, .int v12] d_XNodes_remakeAll_133 cv_XNodes_82 (T_XNodes_makeBoth hM30) kM30 (Nat.le_trans (Nat.le_of_ble_eq_true rfl) hn) (Nat.le_trans (Nat.le_of_ble_eq_true rfl) hl) (Nat.le_of_ble_eq_true rfl) rfl rfl ?_
          obtain ⟨M32, aM32, bM32, cM32, eM32, h⟩ := wI_inv h
          refine ew_wI d_XNodes_remakeAll_136 aM32 bM32 cM32 eM32 ?_
          refine ew_goto 164 d_XNodes_remakeAll_137 (by decide) ?_
          exact ew_pick (L' := [(0, .ref l0), (1, .ref l1), (2, .ref l2), (3, .int l3)]) [0, 1, 2, 3] rfl (E_XNodes_remakeAll_164 hn hl ih h)
        rw [if_neg c29] at h
        refine (Classical.em (v14 = (9 : Int32))).elim (fun c33 => ?_) (fun c33 => ?_)
        · rw [if_pos c33] at h
          refine ew_swIn 140 d_XNodes_remakeAll_46 (by rw [c33]; decide) (by rw [c33]; decide) (by rw [c33]; rfl) (by decide) ?_
          refine ew_aload_n 2 d_XNodes_remakeAll_140 rfl rfl ?_
          refine ew_iload_n 3 d_XNodes_remakeAll_141 rfl rfl ?_
          refine ew_aload_n 0 d_XNodes_remakeAll_142 rfl rfl ?_
          refine ew_iload d_XNodes_remakeAll_143 rfl ?_
          refine ew_iload d_XNodes_remakeAll_145 rfl ?_
          refine ew_aload_n 2 d_XNodes_remakeAll_147 rfl rfl ?_
          refine ew_aload_n 1 d_XNodes_remakeAll_148 rfl rfl ?_
          obtain ⟨v34, av34, bv34, h⟩ := gR_inv h
          refine ew_gR 3 3 d_XNodes_remakeAll_149 fl_XNodes_21 av34 bv34 ?_
          refine ew_iload_n 3 d_XNodes_remakeAll_152 rfl rfl ?_
          obtain ⟨v35, av35, bv35, cv35, ev35, h⟩ := lI_inv h
          refine ew_lI d_XNodes_remakeAll_153 av35 bv35 cv35 ev35 ?_
          obtain ⟨v37, M36, hM36, h⟩ := cI_inv h
          refine ew_callS [.ref l2, .int v35] d_XNodes_remakeAll_154 cs_XNodes_75 (T_XNodes_imageOf hM36) (Nat.le_trans (Nat.le_of_ble_eq_true rfl) hn) (Nat.le_trans (Nat.le_of_ble_eq_true rfl) hl) (Nat.le_of_ble_eq_true rfl) rfl rfl ?_
          obtain ⟨kM38, h⟩ := kO_inv h
          obtain ⟨v39, M38, hM38, h⟩ := cI_inv h
          refine ew_callV 3 [.int v8, .int v12, .int v37] d_XNodes_remakeAll_157 cv_XNodes_71 (T_XNodes_makeChoice hM38) kM38 (Nat.le_trans (Nat.le_of_ble_eq_true rfl) hn) (Nat.le_trans (Nat.le_of_ble_eq_true rfl) hl) (Nat.le_of_ble_eq_true rfl) rfl rfl ?_
          obtain ⟨M40, aM40, bM40, cM40, eM40, h⟩ := wI_inv h
          refine ew_wI d_XNodes_remakeAll_160 aM40 bM40 cM40 eM40 ?_
          refine ew_goto 164 d_XNodes_remakeAll_161 (by decide) ?_
          exact ew_pick (L' := [(0, .ref l0), (1, .ref l1), (2, .ref l2), (3, .int l3)]) [0, 1, 2, 3] rfl (E_XNodes_remakeAll_164 hn hl ih h)
        rw [if_neg c33] at h
        have zc15 := lv_neT c15 (show (5 : Int32).toInt = 5 by decide)
        have zc21 := lv_neT c21 (show (6 : Int32).toInt = 6 by decide)
        have zc25 := lv_neT c25 (show (7 : Int32).toInt = 7 by decide)
        have zc29 := lv_neT c29 (show (8 : Int32).toInt = 8 by decide)
        have zc33 := lv_neT c33 (show (9 : Int32).toInt = 9 by decide)
        refine ew_swOut 164 d_XNodes_remakeAll_46 (by omega) (by decide) ?_
        exact ew_pick (L' := [(0, .ref l0), (1, .ref l1), (2, .ref l2), (3, .int l3)]) [0, 1, 2, 3] rfl (E_XNodes_remakeAll_164 hn hl ih h)
def F_XNodes_remakeAll (n : Nat) (l0 : Nat) (l1 : Nat) (l2 : Nat) (M : PM) : qO :=
  F_XNodes_remakeAll_2 n n l0 l1 l2 (0 : Int32) M
set_option maxHeartbeats 4000000 in
set_option maxRecDepth 100000 in
theorem E_XNodes_remakeAll {g : qG} {X : qX} {Z : qZ} (hn : 3 ≤ zn Z) (hl : 72 ≤ zl Z) {n : Nat} {l0 : Nat} {l1 : Nat} {l2 : Nat} {M : PM} (h : F_XNodes_remakeAll n l0 l1 l2 M = some (zr Z, zf Z)) : EW Y_XNodes_remakeAll g X Z 0 [(0, .ref l0), (1, .ref l1), (2, .ref l2)] [] M := by
  unfold F_XNodes_remakeAll at h
  refine ew_iconst (0) d_XNodes_remakeAll_0 (by decide) ?_
  refine ew_istore_n (L' := [(0, .ref l0), (1, .ref l1), (2, .ref l2), (3, .int (0 : Int32))]) 3 [1, 2, 3, 0] d_XNodes_remakeAll_1 rfl (by decide) rfl ?_
  exact E_XNodes_remakeAll_2 hn hl n l0 l1 l2 (0 : Int32) M h
theorem T_XNodes_remakeAll {n : Nat} {l0 : Nat} {l1 : Nat} {l2 : Nat} {M Mf : PM} {res : qRs} (h : F_XNodes_remakeAll n l0 l1 l2 M = some (res, Mf)) : CT Y_XNodes_remakeAll 3 72 [.ref l0, .ref l1, .ref l2] M res Mf :=
  CT_of (by decide) (Nat.le_of_ble_eq_true rfl) (qHd_ne (by decide)) (fun g X ad0 => E_XNodes_remakeAll (g := g) (X := X) (Z := (ad0, M, res, Mf, 3, 72)) (Nat.le_refl _) (Nat.le_refl _) h)
theorem d_XOutcome_init_0 : decode Y_XOutcome_init.2.1 0 = .ok (.aload_n 0, 1) := by decide +kernel
theorem d_XOutcome_init_1 : decode Y_XOutcome_init.2.1 1 = .ok (.invokespecial 3, 3) := by decide +kernel
theorem d_XOutcome_init_4 : decode Y_XOutcome_init.2.1 4 = .ok (.aload_n 0, 1) := by decide +kernel
theorem d_XOutcome_init_5 : decode Y_XOutcome_init.2.1 5 = .ok (.bipush (16), 2) := by decide +kernel
theorem d_XOutcome_init_7 : decode Y_XOutcome_init.2.1 7 = .ok (.newarray .int, 2) := by decide +kernel
theorem d_XOutcome_init_9 : decode Y_XOutcome_init.2.1 9 = .ok (.putfield 9, 3) := by decide +kernel
theorem d_XOutcome_init_12 : decode Y_XOutcome_init.2.1 12 = .ok (.aload_n 0, 1) := by decide +kernel
theorem d_XOutcome_init_13 : decode Y_XOutcome_init.2.1 13 = .ok (.iconst (-1), 1) := by decide +kernel
theorem d_XOutcome_init_14 : decode Y_XOutcome_init.2.1 14 = .ok (.putfield 15, 3) := by decide +kernel
theorem d_XOutcome_init_17 : decode Y_XOutcome_init.2.1 17 = .ok (.return_, 1) := by decide +kernel
def F_XOutcome_init (n : Nat) (l0 : Nat) (M : PM) : qO :=
  mA 0 M (16 : Int32) (fun q1 M2 =>
  pF 4 M2 l0 0 (.ref q1) (fun M3 =>
  pF 4 M3 l0 1 (.int (-1 : Int32)) (fun M4 =>
  some (.inl none, M4))))
set_option maxHeartbeats 4000000 in
set_option maxRecDepth 100000 in
theorem E_XOutcome_init {g : qG} {X : qX} {Z : qZ} (hn : 1 ≤ zn Z) (hl : 40 ≤ zl Z) {n : Nat} {l0 : Nat} {M : PM} (h : F_XOutcome_init n l0 M = some (zr Z, zf Z)) : EW Y_XOutcome_init g X Z 0 [(0, .ref l0)] [] M := by
  unfold F_XOutcome_init at h
  refine ew_aload_n 0 d_XOutcome_init_0 rfl rfl ?_
  refine ew_objInit d_XOutcome_init_1 ob_XOutcome_3 (Nat.le_trans (Nat.le_of_ble_eq_true rfl) hn) (Nat.le_trans (Nat.le_of_ble_eq_true rfl) hl) ?_
  refine ew_aload_n 0 d_XOutcome_init_4 rfl rfl ?_
  refine ew_bipush (16) d_XOutcome_init_5 (by decide +kernel) ?_
  obtain ⟨q1, M2, aq1, bq1, eq1, fq1, h⟩ := mA_inv h
  refine ew_mA0 d_XOutcome_init_7 aq1 bq1 eq1 fq1 ?_
  obtain ⟨M3, aM3, eM3, h⟩ := pF_inv h
  refine ew_pFF 4 0 d_XOutcome_init_9 fl_XOutcome_9 rfl rfl aM3 eM3 (fun ad => ⟨rfl, rfl⟩) ?_
  refine ew_aload_n 0 d_XOutcome_init_12 rfl rfl ?_
  refine ew_iconst (-1) d_XOutcome_init_13 (by decide) ?_
  obtain ⟨M4, aM4, eM4, h⟩ := pF_inv h
  refine ew_pF 4 1 d_XOutcome_init_14 fl_XOutcome_15 aM4 eM4 (fun ad => ⟨rfl, rfl⟩) ?_
  obtain ⟨hz, hm⟩ := Prod.mk.inj (Option.some.inj h)
  exact ew_return d_XOutcome_init_17 rfl hz.symm hm.symm
theorem T_XOutcome_init {n : Nat} {l0 : Nat} {M Mf : PM} {res : qRs} (h : F_XOutcome_init n l0 M = some (res, Mf)) : CT Y_XOutcome_init 1 40 [.ref l0] M res Mf :=
  CT_of (by decide) (Nat.le_of_ble_eq_true rfl) (qHd_ne (by decide)) (fun g X ad0 => E_XOutcome_init (g := g) (X := X) (Z := (ad0, M, res, Mf, 1, 40)) (Nat.le_refl _) (Nat.le_refl _) h)
theorem d_XOutcome_begin_0 : decode Y_XOutcome_begin.2.1 0 = .ok (.aload_n 0, 1) := by decide +kernel
theorem d_XOutcome_begin_1 : decode Y_XOutcome_begin.2.1 1 = .ok (.getfield 9, 3) := by decide +kernel
theorem d_XOutcome_begin_4 : decode Y_XOutcome_begin.2.1 4 = .ok (.iconst 0, 1) := by decide +kernel
theorem d_XOutcome_begin_5 : decode Y_XOutcome_begin.2.1 5 = .ok (.invokestatic 19, 3) := by decide +kernel
theorem d_XOutcome_begin_8 : decode Y_XOutcome_begin.2.1 8 = .ok (.aload_n 0, 1) := by decide +kernel
theorem d_XOutcome_begin_9 : decode Y_XOutcome_begin.2.1 9 = .ok (.iload_n 1, 1) := by decide +kernel
theorem d_XOutcome_begin_10 : decode Y_XOutcome_begin.2.1 10 = .ok (.putfield 25, 3) := by decide +kernel
theorem d_XOutcome_begin_13 : decode Y_XOutcome_begin.2.1 13 = .ok (.aload_n 0, 1) := by decide +kernel
theorem d_XOutcome_begin_14 : decode Y_XOutcome_begin.2.1 14 = .ok (.iload_n 2, 1) := by decide +kernel
theorem d_XOutcome_begin_15 : decode Y_XOutcome_begin.2.1 15 = .ok (.putfield 28, 3) := by decide +kernel
theorem d_XOutcome_begin_18 : decode Y_XOutcome_begin.2.1 18 = .ok (.aload_n 0, 1) := by decide +kernel
theorem d_XOutcome_begin_19 : decode Y_XOutcome_begin.2.1 19 = .ok (.iconst 0, 1) := by decide +kernel
theorem d_XOutcome_begin_20 : decode Y_XOutcome_begin.2.1 20 = .ok (.putfield 31, 3) := by decide +kernel
theorem d_XOutcome_begin_23 : decode Y_XOutcome_begin.2.1 23 = .ok (.aload_n 0, 1) := by decide +kernel
theorem d_XOutcome_begin_24 : decode Y_XOutcome_begin.2.1 24 = .ok (.iconst 0, 1) := by decide +kernel
theorem d_XOutcome_begin_25 : decode Y_XOutcome_begin.2.1 25 = .ok (.putfield 34, 3) := by decide +kernel
theorem d_XOutcome_begin_28 : decode Y_XOutcome_begin.2.1 28 = .ok (.return_, 1) := by decide +kernel
def F_XOutcome_begin (n : Nat) (l0 : Nat) (l1 : Int32) (l2 : Int32) (M : PM) : qO :=
  gR 4 M l0 0 (fun v1 =>
  cV (F_JArrays_fill n v1 (0 : Int32) M) (fun M2 =>
  pF 4 M2 l0 2 (.int l1) (fun M3 =>
  pF 4 M3 l0 3 (.int l2) (fun M4 =>
  pF 4 M4 l0 5 (.int (0 : Int32)) (fun M5 =>
  pF 4 M5 l0 6 (.int (0 : Int32)) (fun M6 =>
  some (.inl none, M6)))))))
set_option maxHeartbeats 4000000 in
set_option maxRecDepth 100000 in
theorem E_XOutcome_begin {g : qG} {X : qX} {Z : qZ} (hn : 1 ≤ zn Z) (hl : 23 ≤ zl Z) {n : Nat} {l0 : Nat} {l1 : Int32} {l2 : Int32} {M : PM} (h : F_XOutcome_begin n l0 l1 l2 M = some (zr Z, zf Z)) : EW Y_XOutcome_begin g X Z 0 [(0, .ref l0), (1, .int l1), (2, .int l2)] [] M := by
  unfold F_XOutcome_begin at h
  refine ew_aload_n 0 d_XOutcome_begin_0 rfl rfl ?_
  obtain ⟨v1, av1, bv1, h⟩ := gR_inv h
  refine ew_gR 4 0 d_XOutcome_begin_1 fl_XOutcome_9 av1 bv1 ?_
  refine ew_iconst (0) d_XOutcome_begin_4 (by decide) ?_
  obtain ⟨M2, hM2, h⟩ := cV_inv h
  refine ew_callS [.ref v1, .int (0 : Int32)] d_XOutcome_begin_5 cs_XOutcome_19 (T_JArrays_fill hM2) (Nat.le_trans (Nat.le_of_ble_eq_true rfl) hn) (Nat.le_trans (Nat.le_of_ble_eq_true rfl) hl) (Nat.le_of_ble_eq_true rfl) rfl rfl ?_
  refine ew_aload_n 0 d_XOutcome_begin_8 rfl rfl ?_
  refine ew_iload_n 1 d_XOutcome_begin_9 rfl rfl ?_
  obtain ⟨M3, aM3, eM3, h⟩ := pF_inv h
  refine ew_pF 4 2 d_XOutcome_begin_10 fl_XOutcome_25 aM3 eM3 (fun ad => ⟨rfl, rfl⟩) ?_
  refine ew_aload_n 0 d_XOutcome_begin_13 rfl rfl ?_
  refine ew_iload_n 2 d_XOutcome_begin_14 rfl rfl ?_
  obtain ⟨M4, aM4, eM4, h⟩ := pF_inv h
  refine ew_pF 4 3 d_XOutcome_begin_15 fl_XOutcome_28 aM4 eM4 (fun ad => ⟨rfl, rfl⟩) ?_
  refine ew_aload_n 0 d_XOutcome_begin_18 rfl rfl ?_
  refine ew_iconst (0) d_XOutcome_begin_19 (by decide) ?_
  obtain ⟨M5, aM5, eM5, h⟩ := pF_inv h
  refine ew_pF 4 5 d_XOutcome_begin_20 fl_XOutcome_31 aM5 eM5 (fun ad => ⟨rfl, rfl⟩) ?_
  refine ew_aload_n 0 d_XOutcome_begin_23 rfl rfl ?_
  refine ew_iconst (0) d_XOutcome_begin_24 (by decide) ?_
  obtain ⟨M6, aM6, eM6, h⟩ := pF_inv h
  refine ew_pF 4 6 d_XOutcome_begin_25 fl_XOutcome_34 aM6 eM6 (fun ad => ⟨rfl, rfl⟩) ?_
  obtain ⟨hz, hm⟩ := Prod.mk.inj (Option.some.inj h)
  exact ew_return d_XOutcome_begin_28 rfl hz.symm hm.symm
theorem T_XOutcome_begin {n : Nat} {l0 : Nat} {l1 : Int32} {l2 : Int32} {M Mf : PM} {res : qRs} (h : F_XOutcome_begin n l0 l1 l2 M = some (res, Mf)) : CT Y_XOutcome_begin 1 23 [.ref l0, .int l1, .int l2] M res Mf :=
  CT_of (by decide) (Nat.le_of_ble_eq_true rfl) (qHd_ne (by decide)) (fun g X ad0 => E_XOutcome_begin (g := g) (X := X) (Z := (ad0, M, res, Mf, 1, 23)) (Nat.le_refl _) (Nat.le_refl _) h)
theorem d_XOutcome_isTooLarge_0 : decode Y_XOutcome_isTooLarge.2.1 0 = .ok (.aload_n 0, 1) := by decide +kernel
theorem d_XOutcome_isTooLarge_1 : decode Y_XOutcome_isTooLarge.2.1 1 = .ok (.getfield 31, 3) := by decide +kernel
theorem d_XOutcome_isTooLarge_4 : decode Y_XOutcome_isTooLarge.2.1 4 = .ok (.bipush (7), 2) := by decide +kernel
theorem d_XOutcome_isTooLarge_6 : decode Y_XOutcome_isTooLarge.2.1 6 = .ok (.if_icmp .gt (12), 3) := by decide +kernel
theorem d_XOutcome_isTooLarge_9 : decode Y_XOutcome_isTooLarge.2.1 9 = .ok (.aload_n 0, 1) := by decide +kernel
theorem d_XOutcome_isTooLarge_10 : decode Y_XOutcome_isTooLarge.2.1 10 = .ok (.getfield 34, 3) := by decide +kernel
theorem d_XOutcome_isTooLarge_13 : decode Y_XOutcome_isTooLarge.2.1 13 = .ok (.bipush (6), 2) := by decide +kernel
theorem d_XOutcome_isTooLarge_15 : decode Y_XOutcome_isTooLarge.2.1 15 = .ok (.if_icmp .le (7), 3) := by decide +kernel
theorem d_XOutcome_isTooLarge_18 : decode Y_XOutcome_isTooLarge.2.1 18 = .ok (.iconst 1, 1) := by decide +kernel
theorem d_XOutcome_isTooLarge_19 : decode Y_XOutcome_isTooLarge.2.1 19 = .ok (.goto (4), 3) := by decide +kernel
theorem d_XOutcome_isTooLarge_22 : decode Y_XOutcome_isTooLarge.2.1 22 = .ok (.iconst 0, 1) := by decide +kernel
theorem d_XOutcome_isTooLarge_23 : decode Y_XOutcome_isTooLarge.2.1 23 = .ok (.ireturn, 1) := by decide +kernel
def F_XOutcome_isTooLarge_23 (n : Nat) (s0 : Int32) (M : PM) : qO :=
  rZ s0 M
set_option maxHeartbeats 4000000 in
set_option maxRecDepth 100000 in
theorem E_XOutcome_isTooLarge_23 {g : qG} {X : qX} {Z : qZ} (hn : 0 ≤ zn Z) (hl : 0 ≤ zl Z) {n : Nat} {s0 : Int32} {M : PM} (h : F_XOutcome_isTooLarge_23 n s0 M = some (zr Z, zf Z)) : EW Y_XOutcome_isTooLarge g X Z 23 [] [.int s0] M := by
  unfold F_XOutcome_isTooLarge_23 at h
  obtain ⟨hb, h⟩ := rZ_inv h
  obtain ⟨hz, hm⟩ := Prod.mk.inj (Option.some.inj h)
  exact ew_zreturn d_XOutcome_isTooLarge_23 rfl hz.symm hm.symm hb
def F_XOutcome_isTooLarge_18 (n : Nat) (M : PM) : qO :=
  F_XOutcome_isTooLarge_23 n (1 : Int32) M
set_option maxHeartbeats 4000000 in
set_option maxRecDepth 100000 in
theorem E_XOutcome_isTooLarge_18 {g : qG} {X : qX} {Z : qZ} (hn : 0 ≤ zn Z) (hl : 0 ≤ zl Z) {n : Nat} {M : PM} (h : F_XOutcome_isTooLarge_18 n M = some (zr Z, zf Z)) : EW Y_XOutcome_isTooLarge g X Z 18 [] [] M := by
  unfold F_XOutcome_isTooLarge_18 at h
  refine ew_iconst (1) d_XOutcome_isTooLarge_18 (by decide) ?_
  refine ew_goto 23 d_XOutcome_isTooLarge_19 (by decide) ?_
  exact E_XOutcome_isTooLarge_23 hn hl h
def F_XOutcome_isTooLarge (n : Nat) (l0 : Nat) (M : PM) : qO :=
  gI 4 M l0 5 (fun v1 =>
  if (7 : Int32) < v1 then
    F_XOutcome_isTooLarge_18 n M
  else
    gI 4 M l0 6 (fun v3 =>
    if v3 ≤ (6 : Int32) then
      F_XOutcome_isTooLarge_23 n (0 : Int32) M
    else
      F_XOutcome_isTooLarge_18 n M))
set_option maxHeartbeats 4000000 in
set_option maxRecDepth 100000 in
theorem E_XOutcome_isTooLarge {g : qG} {X : qX} {Z : qZ} (hn : 0 ≤ zn Z) (hl : 0 ≤ zl Z) {n : Nat} {l0 : Nat} {M : PM} (h : F_XOutcome_isTooLarge n l0 M = some (zr Z, zf Z)) : EW Y_XOutcome_isTooLarge g X Z 0 [(0, .ref l0)] [] M := by
  unfold F_XOutcome_isTooLarge at h
  refine ew_aload_n 0 d_XOutcome_isTooLarge_0 rfl rfl ?_
  obtain ⟨v1, av1, bv1, h⟩ := gI_inv h
  refine ew_gI 4 5 d_XOutcome_isTooLarge_1 fl_XOutcome_31 av1 bv1 ?_
  refine ew_bipush (7) d_XOutcome_isTooLarge_4 (by decide +kernel) ?_
  refine ew_icmp_gt 18 d_XOutcome_isTooLarge_6 (by decide) (fun c2 => ?_) (fun c2 => ?_)
  · rw [if_pos c2] at h
    exact ew_pick (L' := []) [] rfl (E_XOutcome_isTooLarge_18 hn hl h)
  · rw [if_neg c2] at h
    refine ew_aload_n 0 d_XOutcome_isTooLarge_9 rfl rfl ?_
    obtain ⟨v3, av3, bv3, h⟩ := gI_inv h
    refine ew_gI 4 6 d_XOutcome_isTooLarge_10 fl_XOutcome_34 av3 bv3 ?_
    refine ew_bipush (6) d_XOutcome_isTooLarge_13 (by decide +kernel) ?_
    refine ew_icmp_le 22 d_XOutcome_isTooLarge_15 (by decide) (fun c4 => ?_) (fun c4 => ?_)
    · rw [if_pos c4] at h
      refine ew_iconst (0) d_XOutcome_isTooLarge_22 (by decide) ?_
      exact ew_pick (L' := []) [] rfl (E_XOutcome_isTooLarge_23 hn hl h)
    · rw [if_neg c4] at h
      exact ew_pick (L' := []) [] rfl (E_XOutcome_isTooLarge_18 hn hl h)
theorem T_XOutcome_isTooLarge {n : Nat} {l0 : Nat} {M Mf : PM} {res : qRs} (h : F_XOutcome_isTooLarge n l0 M = some (res, Mf)) : CT Y_XOutcome_isTooLarge 0 0 [.ref l0] M res Mf :=
  CT_of (by decide) (Nat.le_of_ble_eq_true rfl) (qHd_ne (by decide)) (fun g X ad0 => E_XOutcome_isTooLarge (g := g) (X := X) (Z := (ad0, M, res, Mf, 0, 0)) (Nat.le_refl _) (Nat.le_refl _) h)
theorem d_XPlanes_init_0 : decode Y_XPlanes_init.2.1 0 = .ok (.aload_n 0, 1) := by decide +kernel
theorem d_XPlanes_init_1 : decode Y_XPlanes_init.2.1 1 = .ok (.invokespecial 3, 3) := by decide +kernel
theorem d_XPlanes_init_4 : decode Y_XPlanes_init.2.1 4 = .ok (.aload_n 0, 1) := by decide +kernel
theorem d_XPlanes_init_5 : decode Y_XPlanes_init.2.1 5 = .ok (.aload_n 1, 1) := by decide +kernel
theorem d_XPlanes_init_6 : decode Y_XPlanes_init.2.1 6 = .ok (.putfield 9, 3) := by decide +kernel
theorem d_XPlanes_init_9 : decode Y_XPlanes_init.2.1 9 = .ok (.aload_n 0, 1) := by decide +kernel
theorem d_XPlanes_init_10 : decode Y_XPlanes_init.2.1 10 = .ok (.sipush (5732), 3) := by decide +kernel
theorem d_XPlanes_init_13 : decode Y_XPlanes_init.2.1 13 = .ok (.newarray .long, 2) := by decide +kernel
theorem d_XPlanes_init_15 : decode Y_XPlanes_init.2.1 15 = .ok (.putfield 15, 3) := by decide +kernel
theorem d_XPlanes_init_18 : decode Y_XPlanes_init.2.1 18 = .ok (.aload_n 0, 1) := by decide +kernel
theorem d_XPlanes_init_19 : decode Y_XPlanes_init.2.1 19 = .ok (.sipush (5732), 3) := by decide +kernel
theorem d_XPlanes_init_22 : decode Y_XPlanes_init.2.1 22 = .ok (.newarray .long, 2) := by decide +kernel
theorem d_XPlanes_init_24 : decode Y_XPlanes_init.2.1 24 = .ok (.putfield 19, 3) := by decide +kernel
theorem d_XPlanes_init_27 : decode Y_XPlanes_init.2.1 27 = .ok (.aload_n 0, 1) := by decide +kernel
theorem d_XPlanes_init_28 : decode Y_XPlanes_init.2.1 28 = .ok (.sipush (5732), 3) := by decide +kernel
theorem d_XPlanes_init_31 : decode Y_XPlanes_init.2.1 31 = .ok (.newarray .long, 2) := by decide +kernel
theorem d_XPlanes_init_33 : decode Y_XPlanes_init.2.1 33 = .ok (.putfield 22, 3) := by decide +kernel
theorem d_XPlanes_init_36 : decode Y_XPlanes_init.2.1 36 = .ok (.return_, 1) := by decide +kernel
def F_XPlanes_init (n : Nat) (l0 : Nat) (l1 : Nat) (M : PM) : qO :=
  pF 5 M l0 0 (.ref l1) (fun M1 =>
  mA 2 M1 (5732 : Int32) (fun q2 M3 =>
  pF 5 M3 l0 1 (.ref q2) (fun M4 =>
  mA 2 M4 (5732 : Int32) (fun q5 M6 =>
  pF 5 M6 l0 2 (.ref q5) (fun M7 =>
  mA 2 M7 (5732 : Int32) (fun q8 M9 =>
  pF 5 M9 l0 3 (.ref q8) (fun M10 =>
  some (.inl none, M10))))))))
set_option maxHeartbeats 4000000 in
set_option maxRecDepth 100000 in
theorem E_XPlanes_init {g : qG} {X : qX} {Z : qZ} (hn : 1 ≤ zn Z) (hl : 40 ≤ zl Z) {n : Nat} {l0 : Nat} {l1 : Nat} {M : PM} (h : F_XPlanes_init n l0 l1 M = some (zr Z, zf Z)) : EW Y_XPlanes_init g X Z 0 [(0, .ref l0), (1, .ref l1)] [] M := by
  unfold F_XPlanes_init at h
  refine ew_aload_n 0 d_XPlanes_init_0 rfl rfl ?_
  refine ew_objInit d_XPlanes_init_1 ob_XPlanes_3 (Nat.le_trans (Nat.le_of_ble_eq_true rfl) hn) (Nat.le_trans (Nat.le_of_ble_eq_true rfl) hl) ?_
  refine ew_aload_n 0 d_XPlanes_init_4 rfl rfl ?_
  refine ew_aload_n 1 d_XPlanes_init_5 rfl rfl ?_
  obtain ⟨M1, aM1, eM1, h⟩ := pF_inv h
  refine ew_pFF 5 0 d_XPlanes_init_6 fl_XPlanes_9 rfl rfl aM1 eM1 (fun ad => ⟨rfl, rfl⟩) ?_
  refine ew_aload_n 0 d_XPlanes_init_9 rfl rfl ?_
  refine ew_sipush (5732) d_XPlanes_init_10 (by decide +kernel) ?_
  obtain ⟨q2, M3, aq2, bq2, eq2, fq2, h⟩ := mA_inv h
  refine ew_mA2 d_XPlanes_init_13 aq2 bq2 eq2 fq2 ?_
  obtain ⟨M4, aM4, eM4, h⟩ := pF_inv h
  refine ew_pFF 5 1 d_XPlanes_init_15 fl_XPlanes_15 rfl rfl aM4 eM4 (fun ad => ⟨rfl, rfl⟩) ?_
  refine ew_aload_n 0 d_XPlanes_init_18 rfl rfl ?_
  refine ew_sipush (5732) d_XPlanes_init_19 (by decide +kernel) ?_
  obtain ⟨q5, M6, aq5, bq5, eq5, fq5, h⟩ := mA_inv h
  refine ew_mA2 d_XPlanes_init_22 aq5 bq5 eq5 fq5 ?_
  obtain ⟨M7, aM7, eM7, h⟩ := pF_inv h
  refine ew_pFF 5 2 d_XPlanes_init_24 fl_XPlanes_19 rfl rfl aM7 eM7 (fun ad => ⟨rfl, rfl⟩) ?_
  refine ew_aload_n 0 d_XPlanes_init_27 rfl rfl ?_
  refine ew_sipush (5732) d_XPlanes_init_28 (by decide +kernel) ?_
  obtain ⟨q8, M9, aq8, bq8, eq8, fq8, h⟩ := mA_inv h
  refine ew_mA2 d_XPlanes_init_31 aq8 bq8 eq8 fq8 ?_
  obtain ⟨M10, aM10, eM10, h⟩ := pF_inv h
  refine ew_pFF 5 3 d_XPlanes_init_33 fl_XPlanes_22 rfl rfl aM10 eM10 (fun ad => ⟨rfl, rfl⟩) ?_
  obtain ⟨hz, hm⟩ := Prod.mk.inj (Option.some.inj h)
  exact ew_return d_XPlanes_init_36 rfl hz.symm hm.symm
theorem T_XPlanes_init {n : Nat} {l0 : Nat} {l1 : Nat} {M Mf : PM} {res : qRs} (h : F_XPlanes_init n l0 l1 M = some (res, Mf)) : CT Y_XPlanes_init 1 40 [.ref l0, .ref l1] M res Mf :=
  CT_of (by decide) (Nat.le_of_ble_eq_true rfl) (qHd_ne (by decide)) (fun g X ad0 => E_XPlanes_init (g := g) (X := X) (Z := (ad0, M, res, Mf, 1, 40)) (Nat.le_refl _) (Nat.le_refl _) h)
theorem d_XPlanes_truthOf_0 : decode Y_XPlanes_truthOf.2.1 0 = .ok (.aload_n 0, 1) := by decide +kernel
theorem d_XPlanes_truthOf_1 : decode Y_XPlanes_truthOf.2.1 1 = .ok (.getfield 15, 3) := by decide +kernel
theorem d_XPlanes_truthOf_4 : decode Y_XPlanes_truthOf.2.1 4 = .ok (.iload_n 1, 1) := by decide +kernel
theorem d_XPlanes_truthOf_5 : decode Y_XPlanes_truthOf.2.1 5 = .ok (.laload, 1) := by decide +kernel
theorem d_XPlanes_truthOf_6 : decode Y_XPlanes_truthOf.2.1 6 = .ok (.lreturn, 1) := by decide +kernel
def F_XPlanes_truthOf (n : Nat) (l0 : Nat) (l1 : Int32) (M : PM) : qO :=
  gR 5 M l0 1 (fun v1 =>
  lL M v1 l1 (fun v2 =>
  some (.inl (some (.long v2)), M)))
set_option maxHeartbeats 4000000 in
set_option maxRecDepth 100000 in
theorem E_XPlanes_truthOf {g : qG} {X : qX} {Z : qZ} (hn : 0 ≤ zn Z) (hl : 0 ≤ zl Z) {n : Nat} {l0 : Nat} {l1 : Int32} {M : PM} (h : F_XPlanes_truthOf n l0 l1 M = some (zr Z, zf Z)) : EW Y_XPlanes_truthOf g X Z 0 [(0, .ref l0), (1, .int l1)] [] M := by
  unfold F_XPlanes_truthOf at h
  refine ew_aload_n 0 d_XPlanes_truthOf_0 rfl rfl ?_
  obtain ⟨v1, av1, bv1, h⟩ := gR_inv h
  refine ew_gR 5 1 d_XPlanes_truthOf_1 fl_XPlanes_15 av1 bv1 ?_
  refine ew_iload_n 1 d_XPlanes_truthOf_4 rfl rfl ?_
  obtain ⟨v2, av2, bv2, cv2, ev2, h⟩ := lL_inv h
  refine ew_lL d_XPlanes_truthOf_5 av2 bv2 cv2 ev2 ?_
  obtain ⟨hz, hm⟩ := Prod.mk.inj (Option.some.inj h)
  exact ew_lreturn d_XPlanes_truthOf_6 rfl hz.symm hm.symm
theorem T_XPlanes_truthOf {n : Nat} {l0 : Nat} {l1 : Int32} {M Mf : PM} {res : qRs} (h : F_XPlanes_truthOf n l0 l1 M = some (res, Mf)) : CT Y_XPlanes_truthOf 0 0 [.ref l0, .int l1] M res Mf :=
  CT_of (by decide) (Nat.le_of_ble_eq_true rfl) (qHd_ne (by decide)) (fun g X ad0 => E_XPlanes_truthOf (g := g) (X := X) (Z := (ad0, M, res, Mf, 0, 0)) (Nat.le_refl _) (Nat.le_refl _) h)
theorem d_XPlanes_setTruth_0 : decode Y_XPlanes_setTruth.2.1 0 = .ok (.aload_n 0, 1) := by decide +kernel
theorem d_XPlanes_setTruth_1 : decode Y_XPlanes_setTruth.2.1 1 = .ok (.getfield 15, 3) := by decide +kernel
theorem d_XPlanes_setTruth_4 : decode Y_XPlanes_setTruth.2.1 4 = .ok (.iload_n 1, 1) := by decide +kernel
theorem d_XPlanes_setTruth_5 : decode Y_XPlanes_setTruth.2.1 5 = .ok (.lload_n 2, 1) := by decide +kernel
theorem d_XPlanes_setTruth_6 : decode Y_XPlanes_setTruth.2.1 6 = .ok (.lastore, 1) := by decide +kernel
theorem d_XPlanes_setTruth_7 : decode Y_XPlanes_setTruth.2.1 7 = .ok (.return_, 1) := by decide +kernel
def F_XPlanes_setTruth (n : Nat) (l0 : Nat) (l1 : Int32) (l2 : Int64) (M : PM) : qO :=
  gR 5 M l0 1 (fun v1 =>
  wL M v1 l1 l2 (fun M2 =>
  some (.inl none, M2)))
set_option maxHeartbeats 4000000 in
set_option maxRecDepth 100000 in
theorem E_XPlanes_setTruth {g : qG} {X : qX} {Z : qZ} (hn : 0 ≤ zn Z) (hl : 0 ≤ zl Z) {n : Nat} {l0 : Nat} {l1 : Int32} {l2 : Int64} {M : PM} (h : F_XPlanes_setTruth n l0 l1 l2 M = some (zr Z, zf Z)) : EW Y_XPlanes_setTruth g X Z 0 [(0, .ref l0), (1, .int l1), (2, .long l2)] [] M := by
  unfold F_XPlanes_setTruth at h
  refine ew_aload_n 0 d_XPlanes_setTruth_0 rfl rfl ?_
  obtain ⟨v1, av1, bv1, h⟩ := gR_inv h
  refine ew_gR 5 1 d_XPlanes_setTruth_1 fl_XPlanes_15 av1 bv1 ?_
  refine ew_iload_n 1 d_XPlanes_setTruth_4 rfl rfl ?_
  refine ew_lload_n 2 d_XPlanes_setTruth_5 rfl rfl ?_
  obtain ⟨M2, aM2, bM2, cM2, eM2, h⟩ := wL_inv h
  refine ew_wL d_XPlanes_setTruth_6 aM2 bM2 cM2 eM2 ?_
  obtain ⟨hz, hm⟩ := Prod.mk.inj (Option.some.inj h)
  exact ew_return d_XPlanes_setTruth_7 rfl hz.symm hm.symm
theorem T_XPlanes_setTruth {n : Nat} {l0 : Nat} {l1 : Int32} {l2 : Int64} {M Mf : PM} {res : qRs} (h : F_XPlanes_setTruth n l0 l1 l2 M = some (res, Mf)) : CT Y_XPlanes_setTruth 0 0 [.ref l0, .int l1, .long l2] M res Mf :=
  CT_of (by decide) (Nat.le_of_ble_eq_true rfl) (qHd_ne (by decide)) (fun g X ad0 => E_XPlanes_setTruth (g := g) (X := X) (Z := (ad0, M, res, Mf, 0, 0)) (Nat.le_refl _) (Nat.le_refl _) h)
theorem d_XPlanes_setWord_0 : decode Y_XPlanes_setWord.2.1 0 = .ok (.aload_n 0, 1) := by decide +kernel
theorem d_XPlanes_setWord_1 : decode Y_XPlanes_setWord.2.1 1 = .ok (.getfield 15, 3) := by decide +kernel
theorem d_XPlanes_setWord_4 : decode Y_XPlanes_setWord.2.1 4 = .ok (.iload_n 1, 1) := by decide +kernel
theorem d_XPlanes_setWord_5 : decode Y_XPlanes_setWord.2.1 5 = .ok (.iload_n 2, 1) := by decide +kernel
theorem d_XPlanes_setWord_6 : decode Y_XPlanes_setWord.2.1 6 = .ok (.iconst 1, 1) := by decide +kernel
theorem d_XPlanes_setWord_7 : decode Y_XPlanes_setWord.2.1 7 = .ok (.iand, 1) := by decide +kernel
theorem d_XPlanes_setWord_8 : decode Y_XPlanes_setWord.2.1 8 = .ok (.i2l, 1) := by decide +kernel
theorem d_XPlanes_setWord_9 : decode Y_XPlanes_setWord.2.1 9 = .ok (.lneg, 1) := by decide +kernel
theorem d_XPlanes_setWord_10 : decode Y_XPlanes_setWord.2.1 10 = .ok (.lastore, 1) := by decide +kernel
theorem d_XPlanes_setWord_11 : decode Y_XPlanes_setWord.2.1 11 = .ok (.aload_n 0, 1) := by decide +kernel
theorem d_XPlanes_setWord_12 : decode Y_XPlanes_setWord.2.1 12 = .ok (.getfield 19, 3) := by decide +kernel
theorem d_XPlanes_setWord_15 : decode Y_XPlanes_setWord.2.1 15 = .ok (.iload_n 1, 1) := by decide +kernel
theorem d_XPlanes_setWord_16 : decode Y_XPlanes_setWord.2.1 16 = .ok (.iload_n 2, 1) := by decide +kernel
theorem d_XPlanes_setWord_17 : decode Y_XPlanes_setWord.2.1 17 = .ok (.iconst 1, 1) := by decide +kernel
theorem d_XPlanes_setWord_18 : decode Y_XPlanes_setWord.2.1 18 = .ok (.ishr, 1) := by decide +kernel
theorem d_XPlanes_setWord_19 : decode Y_XPlanes_setWord.2.1 19 = .ok (.iconst 1, 1) := by decide +kernel
theorem d_XPlanes_setWord_20 : decode Y_XPlanes_setWord.2.1 20 = .ok (.iand, 1) := by decide +kernel
theorem d_XPlanes_setWord_21 : decode Y_XPlanes_setWord.2.1 21 = .ok (.i2l, 1) := by decide +kernel
theorem d_XPlanes_setWord_22 : decode Y_XPlanes_setWord.2.1 22 = .ok (.lneg, 1) := by decide +kernel
theorem d_XPlanes_setWord_23 : decode Y_XPlanes_setWord.2.1 23 = .ok (.lastore, 1) := by decide +kernel
theorem d_XPlanes_setWord_24 : decode Y_XPlanes_setWord.2.1 24 = .ok (.aload_n 0, 1) := by decide +kernel
theorem d_XPlanes_setWord_25 : decode Y_XPlanes_setWord.2.1 25 = .ok (.getfield 22, 3) := by decide +kernel
theorem d_XPlanes_setWord_28 : decode Y_XPlanes_setWord.2.1 28 = .ok (.iload_n 1, 1) := by decide +kernel
theorem d_XPlanes_setWord_29 : decode Y_XPlanes_setWord.2.1 29 = .ok (.iload_n 2, 1) := by decide +kernel
theorem d_XPlanes_setWord_30 : decode Y_XPlanes_setWord.2.1 30 = .ok (.iconst 2, 1) := by decide +kernel
theorem d_XPlanes_setWord_31 : decode Y_XPlanes_setWord.2.1 31 = .ok (.ishr, 1) := by decide +kernel
theorem d_XPlanes_setWord_32 : decode Y_XPlanes_setWord.2.1 32 = .ok (.iconst 1, 1) := by decide +kernel
theorem d_XPlanes_setWord_33 : decode Y_XPlanes_setWord.2.1 33 = .ok (.iand, 1) := by decide +kernel
theorem d_XPlanes_setWord_34 : decode Y_XPlanes_setWord.2.1 34 = .ok (.i2l, 1) := by decide +kernel
theorem d_XPlanes_setWord_35 : decode Y_XPlanes_setWord.2.1 35 = .ok (.lneg, 1) := by decide +kernel
theorem d_XPlanes_setWord_36 : decode Y_XPlanes_setWord.2.1 36 = .ok (.lastore, 1) := by decide +kernel
theorem d_XPlanes_setWord_37 : decode Y_XPlanes_setWord.2.1 37 = .ok (.return_, 1) := by decide +kernel
def F_XPlanes_setWord (n : Nat) (l0 : Nat) (l1 : Int32) (l2 : Int32) (M : PM) : qO :=
  gR 5 M l0 1 (fun v1 =>
  wL M v1 l1 (-((l2 &&& (1 : Int32)).toInt64)) (fun M2 =>
  gR 5 M2 l0 2 (fun v3 =>
  wL M2 v3 l1 (-(((l2 >>> ((1 : Int32) &&& 31)) &&& (1 : Int32)).toInt64)) (fun M4 =>
  gR 5 M4 l0 3 (fun v5 =>
  wL M4 v5 l1 (-(((l2 >>> ((2 : Int32) &&& 31)) &&& (1 : Int32)).toInt64)) (fun M6 =>
  some (.inl none, M6)))))))
set_option maxHeartbeats 4000000 in
set_option maxRecDepth 100000 in
theorem E_XPlanes_setWord {g : qG} {X : qX} {Z : qZ} (hn : 0 ≤ zn Z) (hl : 0 ≤ zl Z) {n : Nat} {l0 : Nat} {l1 : Int32} {l2 : Int32} {M : PM} (h : F_XPlanes_setWord n l0 l1 l2 M = some (zr Z, zf Z)) : EW Y_XPlanes_setWord g X Z 0 [(0, .ref l0), (1, .int l1), (2, .int l2)] [] M := by
  unfold F_XPlanes_setWord at h
  refine ew_aload_n 0 d_XPlanes_setWord_0 rfl rfl ?_
  obtain ⟨v1, av1, bv1, h⟩ := gR_inv h
  refine ew_gR 5 1 d_XPlanes_setWord_1 fl_XPlanes_15 av1 bv1 ?_
  refine ew_iload_n 1 d_XPlanes_setWord_4 rfl rfl ?_
  refine ew_iload_n 2 d_XPlanes_setWord_5 rfl rfl ?_
  refine ew_iconst (1) d_XPlanes_setWord_6 (by decide) ?_
  refine ew_iand d_XPlanes_setWord_7 ?_
  refine ew_i2l d_XPlanes_setWord_8 ?_
  refine ew_lneg d_XPlanes_setWord_9 ?_
  obtain ⟨M2, aM2, bM2, cM2, eM2, h⟩ := wL_inv h
  refine ew_wL d_XPlanes_setWord_10 aM2 bM2 cM2 eM2 ?_
  refine ew_aload_n 0 d_XPlanes_setWord_11 rfl rfl ?_
  obtain ⟨v3, av3, bv3, h⟩ := gR_inv h
  refine ew_gR 5 2 d_XPlanes_setWord_12 fl_XPlanes_19 av3 bv3 ?_
  refine ew_iload_n 1 d_XPlanes_setWord_15 rfl rfl ?_
  refine ew_iload_n 2 d_XPlanes_setWord_16 rfl rfl ?_
  refine ew_iconst (1) d_XPlanes_setWord_17 (by decide) ?_
  refine ew_ishr d_XPlanes_setWord_18 ?_
  refine ew_iconst (1) d_XPlanes_setWord_19 (by decide) ?_
  refine ew_iand d_XPlanes_setWord_20 ?_
  refine ew_i2l d_XPlanes_setWord_21 ?_
  refine ew_lneg d_XPlanes_setWord_22 ?_
  obtain ⟨M4, aM4, bM4, cM4, eM4, h⟩ := wL_inv h
  refine ew_wL d_XPlanes_setWord_23 aM4 bM4 cM4 eM4 ?_
  refine ew_aload_n 0 d_XPlanes_setWord_24 rfl rfl ?_
  obtain ⟨v5, av5, bv5, h⟩ := gR_inv h
  refine ew_gR 5 3 d_XPlanes_setWord_25 fl_XPlanes_22 av5 bv5 ?_
  refine ew_iload_n 1 d_XPlanes_setWord_28 rfl rfl ?_
  refine ew_iload_n 2 d_XPlanes_setWord_29 rfl rfl ?_
  refine ew_iconst (2) d_XPlanes_setWord_30 (by decide) ?_
  refine ew_ishr d_XPlanes_setWord_31 ?_
  refine ew_iconst (1) d_XPlanes_setWord_32 (by decide) ?_
  refine ew_iand d_XPlanes_setWord_33 ?_
  refine ew_i2l d_XPlanes_setWord_34 ?_
  refine ew_lneg d_XPlanes_setWord_35 ?_
  obtain ⟨M6, aM6, bM6, cM6, eM6, h⟩ := wL_inv h
  refine ew_wL d_XPlanes_setWord_36 aM6 bM6 cM6 eM6 ?_
  obtain ⟨hz, hm⟩ := Prod.mk.inj (Option.some.inj h)
  exact ew_return d_XPlanes_setWord_37 rfl hz.symm hm.symm
theorem T_XPlanes_setWord {n : Nat} {l0 : Nat} {l1 : Int32} {l2 : Int32} {M Mf : PM} {res : qRs} (h : F_XPlanes_setWord n l0 l1 l2 M = some (res, Mf)) : CT Y_XPlanes_setWord 0 0 [.ref l0, .int l1, .int l2] M res Mf :=
  CT_of (by decide) (Nat.le_of_ble_eq_true rfl) (qHd_ne (by decide)) (fun g X ad0 => E_XPlanes_setWord (g := g) (X := X) (Z := (ad0, M, res, Mf, 0, 0)) (Nat.le_refl _) (Nat.le_refl _) h)
theorem d_XPlanes_same_0 : decode Y_XPlanes_same.2.1 0 = .ok (.aload_n 0, 1) := by decide +kernel
theorem d_XPlanes_same_1 : decode Y_XPlanes_same.2.1 1 = .ok (.getfield 15, 3) := by decide +kernel
theorem d_XPlanes_same_4 : decode Y_XPlanes_same.2.1 4 = .ok (.iload_n 1, 1) := by decide +kernel
theorem d_XPlanes_same_5 : decode Y_XPlanes_same.2.1 5 = .ok (.laload, 1) := by decide +kernel
theorem d_XPlanes_same_6 : decode Y_XPlanes_same.2.1 6 = .ok (.aload_n 0, 1) := by decide +kernel
theorem d_XPlanes_same_7 : decode Y_XPlanes_same.2.1 7 = .ok (.getfield 15, 3) := by decide +kernel
theorem d_XPlanes_same_10 : decode Y_XPlanes_same.2.1 10 = .ok (.iload_n 2, 1) := by decide +kernel
theorem d_XPlanes_same_11 : decode Y_XPlanes_same.2.1 11 = .ok (.laload, 1) := by decide +kernel
theorem d_XPlanes_same_12 : decode Y_XPlanes_same.2.1 12 = .ok (.lxor, 1) := by decide +kernel
theorem d_XPlanes_same_13 : decode Y_XPlanes_same.2.1 13 = .ok (.aload_n 0, 1) := by decide +kernel
theorem d_XPlanes_same_14 : decode Y_XPlanes_same.2.1 14 = .ok (.getfield 19, 3) := by decide +kernel
theorem d_XPlanes_same_17 : decode Y_XPlanes_same.2.1 17 = .ok (.iload_n 1, 1) := by decide +kernel
theorem d_XPlanes_same_18 : decode Y_XPlanes_same.2.1 18 = .ok (.laload, 1) := by decide +kernel
theorem d_XPlanes_same_19 : decode Y_XPlanes_same.2.1 19 = .ok (.aload_n 0, 1) := by decide +kernel
theorem d_XPlanes_same_20 : decode Y_XPlanes_same.2.1 20 = .ok (.getfield 19, 3) := by decide +kernel
theorem d_XPlanes_same_23 : decode Y_XPlanes_same.2.1 23 = .ok (.iload_n 2, 1) := by decide +kernel
theorem d_XPlanes_same_24 : decode Y_XPlanes_same.2.1 24 = .ok (.laload, 1) := by decide +kernel
theorem d_XPlanes_same_25 : decode Y_XPlanes_same.2.1 25 = .ok (.lxor, 1) := by decide +kernel
theorem d_XPlanes_same_26 : decode Y_XPlanes_same.2.1 26 = .ok (.lor, 1) := by decide +kernel
theorem d_XPlanes_same_27 : decode Y_XPlanes_same.2.1 27 = .ok (.aload_n 0, 1) := by decide +kernel
theorem d_XPlanes_same_28 : decode Y_XPlanes_same.2.1 28 = .ok (.getfield 22, 3) := by decide +kernel
theorem d_XPlanes_same_31 : decode Y_XPlanes_same.2.1 31 = .ok (.iload_n 1, 1) := by decide +kernel
theorem d_XPlanes_same_32 : decode Y_XPlanes_same.2.1 32 = .ok (.laload, 1) := by decide +kernel
theorem d_XPlanes_same_33 : decode Y_XPlanes_same.2.1 33 = .ok (.aload_n 0, 1) := by decide +kernel
theorem d_XPlanes_same_34 : decode Y_XPlanes_same.2.1 34 = .ok (.getfield 22, 3) := by decide +kernel
theorem d_XPlanes_same_37 : decode Y_XPlanes_same.2.1 37 = .ok (.iload_n 2, 1) := by decide +kernel
theorem d_XPlanes_same_38 : decode Y_XPlanes_same.2.1 38 = .ok (.laload, 1) := by decide +kernel
theorem d_XPlanes_same_39 : decode Y_XPlanes_same.2.1 39 = .ok (.lxor, 1) := by decide +kernel
theorem d_XPlanes_same_40 : decode Y_XPlanes_same.2.1 40 = .ok (.lor, 1) := by decide +kernel
theorem d_XPlanes_same_41 : decode Y_XPlanes_same.2.1 41 = .ok (.ldc2_w 25, 3) := by decide +kernel
theorem d_XPlanes_same_44 : decode Y_XPlanes_same.2.1 44 = .ok (.lxor, 1) := by decide +kernel
theorem d_XPlanes_same_45 : decode Y_XPlanes_same.2.1 45 = .ok (.lreturn, 1) := by decide +kernel
def F_XPlanes_same (n : Nat) (l0 : Nat) (l1 : Int32) (l2 : Int32) (M : PM) : qO :=
  gR 5 M l0 1 (fun v1 =>
  lL M v1 l1 (fun v2 =>
  gR 5 M l0 1 (fun v3 =>
  lL M v3 l2 (fun v4 =>
  gR 5 M l0 2 (fun v5 =>
  lL M v5 l1 (fun v6 =>
  gR 5 M l0 2 (fun v7 =>
  lL M v7 l2 (fun v8 =>
  gR 5 M l0 3 (fun v9 =>
  lL M v9 l1 (fun v10 =>
  gR 5 M l0 3 (fun v11 =>
  lL M v11 l2 (fun v12 =>
  some (.inl (some (.long ((((v2 ^^^ v4) ||| (v6 ^^^ v8)) ||| (v10 ^^^ v12)) ^^^ (-1 : Int64)))), M)))))))))))))
set_option maxHeartbeats 4000000 in
set_option maxRecDepth 100000 in
theorem E_XPlanes_same {g : qG} {X : qX} {Z : qZ} (hn : 0 ≤ zn Z) (hl : 0 ≤ zl Z) {n : Nat} {l0 : Nat} {l1 : Int32} {l2 : Int32} {M : PM} (h : F_XPlanes_same n l0 l1 l2 M = some (zr Z, zf Z)) : EW Y_XPlanes_same g X Z 0 [(0, .ref l0), (1, .int l1), (2, .int l2)] [] M := by
  unfold F_XPlanes_same at h
  refine ew_aload_n 0 d_XPlanes_same_0 rfl rfl ?_
  obtain ⟨v1, av1, bv1, h⟩ := gR_inv h
  refine ew_gR 5 1 d_XPlanes_same_1 fl_XPlanes_15 av1 bv1 ?_
  refine ew_iload_n 1 d_XPlanes_same_4 rfl rfl ?_
  obtain ⟨v2, av2, bv2, cv2, ev2, h⟩ := lL_inv h
  refine ew_lL d_XPlanes_same_5 av2 bv2 cv2 ev2 ?_
  refine ew_aload_n 0 d_XPlanes_same_6 rfl rfl ?_
  obtain ⟨v3, av3, bv3, h⟩ := gR_inv h
  refine ew_gR 5 1 d_XPlanes_same_7 fl_XPlanes_15 av3 bv3 ?_
  refine ew_iload_n 2 d_XPlanes_same_10 rfl rfl ?_
  obtain ⟨v4, av4, bv4, cv4, ev4, h⟩ := lL_inv h
  refine ew_lL d_XPlanes_same_11 av4 bv4 cv4 ev4 ?_
  refine ew_lxor d_XPlanes_same_12 ?_
  refine ew_aload_n 0 d_XPlanes_same_13 rfl rfl ?_
  obtain ⟨v5, av5, bv5, h⟩ := gR_inv h
  refine ew_gR 5 2 d_XPlanes_same_14 fl_XPlanes_19 av5 bv5 ?_
  refine ew_iload_n 1 d_XPlanes_same_17 rfl rfl ?_
  obtain ⟨v6, av6, bv6, cv6, ev6, h⟩ := lL_inv h
  refine ew_lL d_XPlanes_same_18 av6 bv6 cv6 ev6 ?_
  refine ew_aload_n 0 d_XPlanes_same_19 rfl rfl ?_
  obtain ⟨v7, av7, bv7, h⟩ := gR_inv h
  refine ew_gR 5 2 d_XPlanes_same_20 fl_XPlanes_19 av7 bv7 ?_
  refine ew_iload_n 2 d_XPlanes_same_23 rfl rfl ?_
  obtain ⟨v8, av8, bv8, cv8, ev8, h⟩ := lL_inv h
  refine ew_lL d_XPlanes_same_24 av8 bv8 cv8 ev8 ?_
  refine ew_lxor d_XPlanes_same_25 ?_
  refine ew_lor d_XPlanes_same_26 ?_
  refine ew_aload_n 0 d_XPlanes_same_27 rfl rfl ?_
  obtain ⟨v9, av9, bv9, h⟩ := gR_inv h
  refine ew_gR 5 3 d_XPlanes_same_28 fl_XPlanes_22 av9 bv9 ?_
  refine ew_iload_n 1 d_XPlanes_same_31 rfl rfl ?_
  obtain ⟨v10, av10, bv10, cv10, ev10, h⟩ := lL_inv h
  refine ew_lL d_XPlanes_same_32 av10 bv10 cv10 ev10 ?_
  refine ew_aload_n 0 d_XPlanes_same_33 rfl rfl ?_
  obtain ⟨v11, av11, bv11, h⟩ := gR_inv h
  refine ew_gR 5 3 d_XPlanes_same_34 fl_XPlanes_22 av11 bv11 ?_
  refine ew_iload_n 2 d_XPlanes_same_37 rfl rfl ?_
  obtain ⟨v12, av12, bv12, cv12, ev12, h⟩ := lL_inv h
  refine ew_lL d_XPlanes_same_38 av12 bv12 cv12 ev12 ?_
  refine ew_lxor d_XPlanes_same_39 ?_
  refine ew_lor d_XPlanes_same_40 ?_
  refine ew_ldc2 (-1) d_XPlanes_same_41 ct_XPlanes_25 ?_
  refine ew_lxor d_XPlanes_same_44 ?_
  obtain ⟨hz, hm⟩ := Prod.mk.inj (Option.some.inj h)
  exact ew_lreturn d_XPlanes_same_45 rfl hz.symm hm.symm
theorem T_XPlanes_same {n : Nat} {l0 : Nat} {l1 : Int32} {l2 : Int32} {M Mf : PM} {res : qRs} (h : F_XPlanes_same n l0 l1 l2 M = some (res, Mf)) : CT Y_XPlanes_same 0 0 [.ref l0, .int l1, .int l2] M res Mf :=
  CT_of (by decide) (Nat.le_of_ble_eq_true rfl) (qHd_ne (by decide)) (fun g X ad0 => E_XPlanes_same (g := g) (X := X) (Z := (ad0, M, res, Mf, 0, 0)) (Nat.le_refl _) (Nat.le_refl _) h)
theorem d_XPlanes_choose_0 : decode Y_XPlanes_choose.2.1 0 = .ok (.aload_n 0, 1) := by decide +kernel
theorem d_XPlanes_choose_1 : decode Y_XPlanes_choose.2.1 1 = .ok (.getfield 15, 3) := by decide +kernel
theorem d_XPlanes_choose_4 : decode Y_XPlanes_choose.2.1 4 = .ok (.iload_n 1, 1) := by decide +kernel
theorem d_XPlanes_choose_5 : decode Y_XPlanes_choose.2.1 5 = .ok (.lload_n 2, 1) := by decide +kernel
theorem d_XPlanes_choose_6 : decode Y_XPlanes_choose.2.1 6 = .ok (.aload_n 0, 1) := by decide +kernel
theorem d_XPlanes_choose_7 : decode Y_XPlanes_choose.2.1 7 = .ok (.getfield 15, 3) := by decide +kernel
theorem d_XPlanes_choose_10 : decode Y_XPlanes_choose.2.1 10 = .ok (.iload 4, 2) := by decide +kernel
theorem d_XPlanes_choose_12 : decode Y_XPlanes_choose.2.1 12 = .ok (.laload, 1) := by decide +kernel
theorem d_XPlanes_choose_13 : decode Y_XPlanes_choose.2.1 13 = .ok (.land, 1) := by decide +kernel
theorem d_XPlanes_choose_14 : decode Y_XPlanes_choose.2.1 14 = .ok (.lload_n 2, 1) := by decide +kernel
theorem d_XPlanes_choose_15 : decode Y_XPlanes_choose.2.1 15 = .ok (.ldc2_w 25, 3) := by decide +kernel
theorem d_XPlanes_choose_18 : decode Y_XPlanes_choose.2.1 18 = .ok (.lxor, 1) := by decide +kernel
theorem d_XPlanes_choose_19 : decode Y_XPlanes_choose.2.1 19 = .ok (.aload_n 0, 1) := by decide +kernel
theorem d_XPlanes_choose_20 : decode Y_XPlanes_choose.2.1 20 = .ok (.getfield 15, 3) := by decide +kernel
theorem d_XPlanes_choose_23 : decode Y_XPlanes_choose.2.1 23 = .ok (.iload 5, 2) := by decide +kernel
theorem d_XPlanes_choose_25 : decode Y_XPlanes_choose.2.1 25 = .ok (.laload, 1) := by decide +kernel
theorem d_XPlanes_choose_26 : decode Y_XPlanes_choose.2.1 26 = .ok (.land, 1) := by decide +kernel
theorem d_XPlanes_choose_27 : decode Y_XPlanes_choose.2.1 27 = .ok (.lor, 1) := by decide +kernel
theorem d_XPlanes_choose_28 : decode Y_XPlanes_choose.2.1 28 = .ok (.lastore, 1) := by decide +kernel
theorem d_XPlanes_choose_29 : decode Y_XPlanes_choose.2.1 29 = .ok (.aload_n 0, 1) := by decide +kernel
theorem d_XPlanes_choose_30 : decode Y_XPlanes_choose.2.1 30 = .ok (.getfield 9, 3) := by decide +kernel
theorem d_XPlanes_choose_33 : decode Y_XPlanes_choose.2.1 33 = .ok (.getfield 50, 3) := by decide +kernel
theorem d_XPlanes_choose_36 : decode Y_XPlanes_choose.2.1 36 = .ok (.iload_n 1, 1) := by decide +kernel
theorem d_XPlanes_choose_37 : decode Y_XPlanes_choose.2.1 37 = .ok (.baload, 1) := by decide +kernel
theorem d_XPlanes_choose_38 : decode Y_XPlanes_choose.2.1 38 = .ok (.ifCond .eq (61), 3) := by decide +kernel
theorem d_XPlanes_choose_41 : decode Y_XPlanes_choose.2.1 41 = .ok (.aload_n 0, 1) := by decide +kernel
theorem d_XPlanes_choose_42 : decode Y_XPlanes_choose.2.1 42 = .ok (.getfield 19, 3) := by decide +kernel
theorem d_XPlanes_choose_45 : decode Y_XPlanes_choose.2.1 45 = .ok (.iload_n 1, 1) := by decide +kernel
theorem d_XPlanes_choose_46 : decode Y_XPlanes_choose.2.1 46 = .ok (.lload_n 2, 1) := by decide +kernel
theorem d_XPlanes_choose_47 : decode Y_XPlanes_choose.2.1 47 = .ok (.aload_n 0, 1) := by decide +kernel
theorem d_XPlanes_choose_48 : decode Y_XPlanes_choose.2.1 48 = .ok (.getfield 19, 3) := by decide +kernel
theorem d_XPlanes_choose_51 : decode Y_XPlanes_choose.2.1 51 = .ok (.iload 4, 2) := by decide +kernel
theorem d_XPlanes_choose_53 : decode Y_XPlanes_choose.2.1 53 = .ok (.laload, 1) := by decide +kernel
theorem d_XPlanes_choose_54 : decode Y_XPlanes_choose.2.1 54 = .ok (.land, 1) := by decide +kernel
theorem d_XPlanes_choose_55 : decode Y_XPlanes_choose.2.1 55 = .ok (.lload_n 2, 1) := by decide +kernel
theorem d_XPlanes_choose_56 : decode Y_XPlanes_choose.2.1 56 = .ok (.ldc2_w 25, 3) := by decide +kernel
theorem d_XPlanes_choose_59 : decode Y_XPlanes_choose.2.1 59 = .ok (.lxor, 1) := by decide +kernel
theorem d_XPlanes_choose_60 : decode Y_XPlanes_choose.2.1 60 = .ok (.aload_n 0, 1) := by decide +kernel
theorem d_XPlanes_choose_61 : decode Y_XPlanes_choose.2.1 61 = .ok (.getfield 19, 3) := by decide +kernel
theorem d_XPlanes_choose_64 : decode Y_XPlanes_choose.2.1 64 = .ok (.iload 5, 2) := by decide +kernel
theorem d_XPlanes_choose_66 : decode Y_XPlanes_choose.2.1 66 = .ok (.laload, 1) := by decide +kernel
theorem d_XPlanes_choose_67 : decode Y_XPlanes_choose.2.1 67 = .ok (.land, 1) := by decide +kernel
theorem d_XPlanes_choose_68 : decode Y_XPlanes_choose.2.1 68 = .ok (.lor, 1) := by decide +kernel
theorem d_XPlanes_choose_69 : decode Y_XPlanes_choose.2.1 69 = .ok (.lastore, 1) := by decide +kernel
theorem d_XPlanes_choose_70 : decode Y_XPlanes_choose.2.1 70 = .ok (.aload_n 0, 1) := by decide +kernel
theorem d_XPlanes_choose_71 : decode Y_XPlanes_choose.2.1 71 = .ok (.getfield 22, 3) := by decide +kernel
theorem d_XPlanes_choose_74 : decode Y_XPlanes_choose.2.1 74 = .ok (.iload_n 1, 1) := by decide +kernel
theorem d_XPlanes_choose_75 : decode Y_XPlanes_choose.2.1 75 = .ok (.lload_n 2, 1) := by decide +kernel
theorem d_XPlanes_choose_76 : decode Y_XPlanes_choose.2.1 76 = .ok (.aload_n 0, 1) := by decide +kernel
theorem d_XPlanes_choose_77 : decode Y_XPlanes_choose.2.1 77 = .ok (.getfield 22, 3) := by decide +kernel
theorem d_XPlanes_choose_80 : decode Y_XPlanes_choose.2.1 80 = .ok (.iload 4, 2) := by decide +kernel
theorem d_XPlanes_choose_82 : decode Y_XPlanes_choose.2.1 82 = .ok (.laload, 1) := by decide +kernel
theorem d_XPlanes_choose_83 : decode Y_XPlanes_choose.2.1 83 = .ok (.land, 1) := by decide +kernel
theorem d_XPlanes_choose_84 : decode Y_XPlanes_choose.2.1 84 = .ok (.lload_n 2, 1) := by decide +kernel
theorem d_XPlanes_choose_85 : decode Y_XPlanes_choose.2.1 85 = .ok (.ldc2_w 25, 3) := by decide +kernel
theorem d_XPlanes_choose_88 : decode Y_XPlanes_choose.2.1 88 = .ok (.lxor, 1) := by decide +kernel
theorem d_XPlanes_choose_89 : decode Y_XPlanes_choose.2.1 89 = .ok (.aload_n 0, 1) := by decide +kernel
theorem d_XPlanes_choose_90 : decode Y_XPlanes_choose.2.1 90 = .ok (.getfield 22, 3) := by decide +kernel
theorem d_XPlanes_choose_93 : decode Y_XPlanes_choose.2.1 93 = .ok (.iload 5, 2) := by decide +kernel
theorem d_XPlanes_choose_95 : decode Y_XPlanes_choose.2.1 95 = .ok (.laload, 1) := by decide +kernel
theorem d_XPlanes_choose_96 : decode Y_XPlanes_choose.2.1 96 = .ok (.land, 1) := by decide +kernel
theorem d_XPlanes_choose_97 : decode Y_XPlanes_choose.2.1 97 = .ok (.lor, 1) := by decide +kernel
theorem d_XPlanes_choose_98 : decode Y_XPlanes_choose.2.1 98 = .ok (.lastore, 1) := by decide +kernel
theorem d_XPlanes_choose_99 : decode Y_XPlanes_choose.2.1 99 = .ok (.return_, 1) := by decide +kernel
def F_XPlanes_choose_99 (n : Nat) (M : PM) : qO :=
  some (.inl none, M)
set_option maxHeartbeats 4000000 in
set_option maxRecDepth 100000 in
theorem E_XPlanes_choose_99 {g : qG} {X : qX} {Z : qZ} (hn : 0 ≤ zn Z) (hl : 0 ≤ zl Z) {n : Nat} {M : PM} (h : F_XPlanes_choose_99 n M = some (zr Z, zf Z)) : EW Y_XPlanes_choose g X Z 99 [] [] M := by
  unfold F_XPlanes_choose_99 at h
  obtain ⟨hz, hm⟩ := Prod.mk.inj (Option.some.inj h)
  exact ew_return d_XPlanes_choose_99 rfl hz.symm hm.symm
def F_XPlanes_choose (n : Nat) (l0 : Nat) (l1 : Int32) (l2 : Int64) (l4 : Int32) (l5 : Int32) (M : PM) : qO :=
  gR 5 M l0 1 (fun v1 =>
  gR 5 M l0 1 (fun v2 =>
  lL M v2 l4 (fun v3 =>
  gR 5 M l0 1 (fun v4 =>
  lL M v4 l5 (fun v5 =>
  wL M v1 l1 ((l2 &&& v3) ||| ((l2 ^^^ (-1 : Int64)) &&& v5)) (fun M6 =>
  gR 5 M6 l0 0 (fun v7 =>
  gR 3 M6 v7 4 (fun v8 =>
  lZ M6 v8 l1 (fun v9 =>
  if v9 = (0 : Int32) then
    F_XPlanes_choose_99 n M6
  else
    gR 5 M6 l0 2 (fun v11 =>
    gR 5 M6 l0 2 (fun v12 =>
    lL M6 v12 l4 (fun v13 =>
    gR 5 M6 l0 2 (fun v14 =>
    lL M6 v14 l5 (fun v15 =>
    wL M6 v11 l1 ((l2 &&& v13) ||| ((l2 ^^^ (-1 : Int64)) &&& v15)) (fun M16 =>
    gR 5 M16 l0 3 (fun v17 =>
    gR 5 M16 l0 3 (fun v18 =>
    lL M16 v18 l4 (fun v19 =>
    gR 5 M16 l0 3 (fun v20 =>
    lL M16 v20 l5 (fun v21 =>
    wL M16 v17 l1 ((l2 &&& v19) ||| ((l2 ^^^ (-1 : Int64)) &&& v21)) (fun M22 =>
    F_XPlanes_choose_99 n M22)))))))))))))))))))))
set_option maxHeartbeats 4000000 in
set_option maxRecDepth 100000 in
theorem E_XPlanes_choose {g : qG} {X : qX} {Z : qZ} (hn : 0 ≤ zn Z) (hl : 0 ≤ zl Z) {n : Nat} {l0 : Nat} {l1 : Int32} {l2 : Int64} {l4 : Int32} {l5 : Int32} {M : PM} (h : F_XPlanes_choose n l0 l1 l2 l4 l5 M = some (zr Z, zf Z)) : EW Y_XPlanes_choose g X Z 0 [(0, .ref l0), (1, .int l1), (2, .long l2), (4, .int l4), (5, .int l5)] [] M := by
  unfold F_XPlanes_choose at h
  refine ew_aload_n 0 d_XPlanes_choose_0 rfl rfl ?_
  obtain ⟨v1, av1, bv1, h⟩ := gR_inv h
  refine ew_gR 5 1 d_XPlanes_choose_1 fl_XPlanes_15 av1 bv1 ?_
  refine ew_iload_n 1 d_XPlanes_choose_4 rfl rfl ?_
  refine ew_lload_n 2 d_XPlanes_choose_5 rfl rfl ?_
  refine ew_aload_n 0 d_XPlanes_choose_6 rfl rfl ?_
  obtain ⟨v2, av2, bv2, h⟩ := gR_inv h
  refine ew_gR 5 1 d_XPlanes_choose_7 fl_XPlanes_15 av2 bv2 ?_
  refine ew_iload d_XPlanes_choose_10 rfl ?_
  obtain ⟨v3, av3, bv3, cv3, ev3, h⟩ := lL_inv h
  refine ew_lL d_XPlanes_choose_12 av3 bv3 cv3 ev3 ?_
  refine ew_land d_XPlanes_choose_13 ?_
  refine ew_lload_n 2 d_XPlanes_choose_14 rfl rfl ?_
  refine ew_ldc2 (-1) d_XPlanes_choose_15 ct_XPlanes_25 ?_
  refine ew_lxor d_XPlanes_choose_18 ?_
  refine ew_aload_n 0 d_XPlanes_choose_19 rfl rfl ?_
  obtain ⟨v4, av4, bv4, h⟩ := gR_inv h
  refine ew_gR 5 1 d_XPlanes_choose_20 fl_XPlanes_15 av4 bv4 ?_
  refine ew_iload d_XPlanes_choose_23 rfl ?_
  obtain ⟨v5, av5, bv5, cv5, ev5, h⟩ := lL_inv h
  refine ew_lL d_XPlanes_choose_25 av5 bv5 cv5 ev5 ?_
  refine ew_land d_XPlanes_choose_26 ?_
  refine ew_lor d_XPlanes_choose_27 ?_
  obtain ⟨M6, aM6, bM6, cM6, eM6, h⟩ := wL_inv h
  refine ew_wL d_XPlanes_choose_28 aM6 bM6 cM6 eM6 ?_
  refine ew_aload_n 0 d_XPlanes_choose_29 rfl rfl ?_
  obtain ⟨v7, av7, bv7, h⟩ := gR_inv h
  refine ew_gR 5 0 d_XPlanes_choose_30 fl_XPlanes_9 av7 bv7 ?_
  obtain ⟨v8, av8, bv8, h⟩ := gR_inv h
  refine ew_gR 3 4 d_XPlanes_choose_33 fl_XPlanes_50 av8 bv8 ?_
  refine ew_iload_n 1 d_XPlanes_choose_36 rfl rfl ?_
  obtain ⟨v9, av9, bv9, cv9, ev9, h⟩ := lZ_inv h
  refine ew_lZ d_XPlanes_choose_37 av9 bv9 cv9 ev9 ?_
  refine ew_if_eq 99 d_XPlanes_choose_38 (by decide) (fun c10 => ?_) (fun c10 => ?_)
  · rw [if_pos c10] at h
    exact ew_pick (L' := []) [] rfl (E_XPlanes_choose_99 hn hl h)
  · rw [if_neg c10] at h
    refine ew_aload_n 0 d_XPlanes_choose_41 rfl rfl ?_
    obtain ⟨v11, av11, bv11, h⟩ := gR_inv h
    refine ew_gR 5 2 d_XPlanes_choose_42 fl_XPlanes_19 av11 bv11 ?_
    refine ew_iload_n 1 d_XPlanes_choose_45 rfl rfl ?_
    refine ew_lload_n 2 d_XPlanes_choose_46 rfl rfl ?_
    refine ew_aload_n 0 d_XPlanes_choose_47 rfl rfl ?_
    obtain ⟨v12, av12, bv12, h⟩ := gR_inv h
    refine ew_gR 5 2 d_XPlanes_choose_48 fl_XPlanes_19 av12 bv12 ?_
    refine ew_iload d_XPlanes_choose_51 rfl ?_
    obtain ⟨v13, av13, bv13, cv13, ev13, h⟩ := lL_inv h
    refine ew_lL d_XPlanes_choose_53 av13 bv13 cv13 ev13 ?_
    refine ew_land d_XPlanes_choose_54 ?_
    refine ew_lload_n 2 d_XPlanes_choose_55 rfl rfl ?_
    refine ew_ldc2 (-1) d_XPlanes_choose_56 ct_XPlanes_25 ?_
    refine ew_lxor d_XPlanes_choose_59 ?_
    refine ew_aload_n 0 d_XPlanes_choose_60 rfl rfl ?_
    obtain ⟨v14, av14, bv14, h⟩ := gR_inv h
    refine ew_gR 5 2 d_XPlanes_choose_61 fl_XPlanes_19 av14 bv14 ?_
    refine ew_iload d_XPlanes_choose_64 rfl ?_
    obtain ⟨v15, av15, bv15, cv15, ev15, h⟩ := lL_inv h
    refine ew_lL d_XPlanes_choose_66 av15 bv15 cv15 ev15 ?_
    refine ew_land d_XPlanes_choose_67 ?_
    refine ew_lor d_XPlanes_choose_68 ?_
    obtain ⟨M16, aM16, bM16, cM16, eM16, h⟩ := wL_inv h
    refine ew_wL d_XPlanes_choose_69 aM16 bM16 cM16 eM16 ?_
    refine ew_aload_n 0 d_XPlanes_choose_70 rfl rfl ?_
    obtain ⟨v17, av17, bv17, h⟩ := gR_inv h
    refine ew_gR 5 3 d_XPlanes_choose_71 fl_XPlanes_22 av17 bv17 ?_
    refine ew_iload_n 1 d_XPlanes_choose_74 rfl rfl ?_
    refine ew_lload_n 2 d_XPlanes_choose_75 rfl rfl ?_
    refine ew_aload_n 0 d_XPlanes_choose_76 rfl rfl ?_
    obtain ⟨v18, av18, bv18, h⟩ := gR_inv h
    refine ew_gR 5 3 d_XPlanes_choose_77 fl_XPlanes_22 av18 bv18 ?_
    refine ew_iload d_XPlanes_choose_80 rfl ?_
    obtain ⟨v19, av19, bv19, cv19, ev19, h⟩ := lL_inv h
    refine ew_lL d_XPlanes_choose_82 av19 bv19 cv19 ev19 ?_
    refine ew_land d_XPlanes_choose_83 ?_
    refine ew_lload_n 2 d_XPlanes_choose_84 rfl rfl ?_
    refine ew_ldc2 (-1) d_XPlanes_choose_85 ct_XPlanes_25 ?_
    refine ew_lxor d_XPlanes_choose_88 ?_
    refine ew_aload_n 0 d_XPlanes_choose_89 rfl rfl ?_
    obtain ⟨v20, av20, bv20, h⟩ := gR_inv h
    refine ew_gR 5 3 d_XPlanes_choose_90 fl_XPlanes_22 av20 bv20 ?_
    refine ew_iload d_XPlanes_choose_93 rfl ?_
    obtain ⟨v21, av21, bv21, cv21, ev21, h⟩ := lL_inv h
    refine ew_lL d_XPlanes_choose_95 av21 bv21 cv21 ev21 ?_
    refine ew_land d_XPlanes_choose_96 ?_
    refine ew_lor d_XPlanes_choose_97 ?_
    obtain ⟨M22, aM22, bM22, cM22, eM22, h⟩ := wL_inv h
    refine ew_wL d_XPlanes_choose_98 aM22 bM22 cM22 eM22 ?_
    exact ew_pick (L' := []) [] rfl (E_XPlanes_choose_99 hn hl h)
theorem T_XPlanes_choose {n : Nat} {l0 : Nat} {l1 : Int32} {l2 : Int64} {l4 : Int32} {l5 : Int32} {M Mf : PM} {res : qRs} (h : F_XPlanes_choose n l0 l1 l2 l4 l5 M = some (res, Mf)) : CT Y_XPlanes_choose 0 0 [.ref l0, .int l1, .long l2, .int l4, .int l5] M res Mf :=
  CT_of (by decide) (Nat.le_of_ble_eq_true rfl) (qHd_ne (by decide)) (fun g X ad0 => E_XPlanes_choose (g := g) (X := X) (Z := (ad0, M, res, Mf, 0, 0)) (Nat.le_refl _) (Nat.le_refl _) h)
theorem d_XPlanes_reckon_0 : decode Y_XPlanes_reckon.2.1 0 = .ok (.aload_n 0, 1) := by decide +kernel
theorem d_XPlanes_reckon_1 : decode Y_XPlanes_reckon.2.1 1 = .ok (.getfield 9, 3) := by decide +kernel
theorem d_XPlanes_reckon_4 : decode Y_XPlanes_reckon.2.1 4 = .ok (.getfield 27, 3) := by decide +kernel
theorem d_XPlanes_reckon_7 : decode Y_XPlanes_reckon.2.1 7 = .ok (.iload_n 1, 1) := by decide +kernel
theorem d_XPlanes_reckon_8 : decode Y_XPlanes_reckon.2.1 8 = .ok (.iaload, 1) := by decide +kernel
theorem d_XPlanes_reckon_9 : decode Y_XPlanes_reckon.2.1 9 = .ok (.istore_n 2, 1) := by decide +kernel
theorem d_XPlanes_reckon_10 : decode Y_XPlanes_reckon.2.1 10 = .ok (.aload_n 0, 1) := by decide +kernel
theorem d_XPlanes_reckon_11 : decode Y_XPlanes_reckon.2.1 11 = .ok (.getfield 9, 3) := by decide +kernel
theorem d_XPlanes_reckon_14 : decode Y_XPlanes_reckon.2.1 14 = .ok (.getfield 33, 3) := by decide +kernel
theorem d_XPlanes_reckon_17 : decode Y_XPlanes_reckon.2.1 17 = .ok (.iload_n 1, 1) := by decide +kernel
theorem d_XPlanes_reckon_18 : decode Y_XPlanes_reckon.2.1 18 = .ok (.iaload, 1) := by decide +kernel
theorem d_XPlanes_reckon_19 : decode Y_XPlanes_reckon.2.1 19 = .ok (.istore_n 3, 1) := by decide +kernel
theorem d_XPlanes_reckon_20 : decode Y_XPlanes_reckon.2.1 20 = .ok (.aload_n 0, 1) := by decide +kernel
theorem d_XPlanes_reckon_21 : decode Y_XPlanes_reckon.2.1 21 = .ok (.getfield 9, 3) := by decide +kernel
theorem d_XPlanes_reckon_24 : decode Y_XPlanes_reckon.2.1 24 = .ok (.getfield 36, 3) := by decide +kernel
theorem d_XPlanes_reckon_27 : decode Y_XPlanes_reckon.2.1 27 = .ok (.iload_n 1, 1) := by decide +kernel
theorem d_XPlanes_reckon_28 : decode Y_XPlanes_reckon.2.1 28 = .ok (.iaload, 1) := by decide +kernel
theorem d_XPlanes_reckon_29 : decode Y_XPlanes_reckon.2.1 29 = .ok (.tableswitch (111) 6 9 #[31, 46, 65, 87], 31) := by decide +kernel
theorem d_XPlanes_reckon_60 : decode Y_XPlanes_reckon.2.1 60 = .ok (.aload_n 0, 1) := by decide +kernel
theorem d_XPlanes_reckon_61 : decode Y_XPlanes_reckon.2.1 61 = .ok (.getfield 15, 3) := by decide +kernel
theorem d_XPlanes_reckon_64 : decode Y_XPlanes_reckon.2.1 64 = .ok (.iload_n 1, 1) := by decide +kernel
theorem d_XPlanes_reckon_65 : decode Y_XPlanes_reckon.2.1 65 = .ok (.aload_n 0, 1) := by decide +kernel
theorem d_XPlanes_reckon_66 : decode Y_XPlanes_reckon.2.1 66 = .ok (.iload_n 2, 1) := by decide +kernel
theorem d_XPlanes_reckon_67 : decode Y_XPlanes_reckon.2.1 67 = .ok (.iload_n 3, 1) := by decide +kernel
theorem d_XPlanes_reckon_68 : decode Y_XPlanes_reckon.2.1 68 = .ok (.invokevirtual 39, 3) := by decide +kernel
theorem d_XPlanes_reckon_71 : decode Y_XPlanes_reckon.2.1 71 = .ok (.lastore, 1) := by decide +kernel
theorem d_XPlanes_reckon_72 : decode Y_XPlanes_reckon.2.1 72 = .ok (.goto (68), 3) := by decide +kernel
theorem d_XPlanes_reckon_75 : decode Y_XPlanes_reckon.2.1 75 = .ok (.aload_n 0, 1) := by decide +kernel
theorem d_XPlanes_reckon_76 : decode Y_XPlanes_reckon.2.1 76 = .ok (.getfield 15, 3) := by decide +kernel
theorem d_XPlanes_reckon_79 : decode Y_XPlanes_reckon.2.1 79 = .ok (.iload_n 1, 1) := by decide +kernel
theorem d_XPlanes_reckon_80 : decode Y_XPlanes_reckon.2.1 80 = .ok (.aload_n 0, 1) := by decide +kernel
theorem d_XPlanes_reckon_81 : decode Y_XPlanes_reckon.2.1 81 = .ok (.getfield 15, 3) := by decide +kernel
theorem d_XPlanes_reckon_84 : decode Y_XPlanes_reckon.2.1 84 = .ok (.iload_n 2, 1) := by decide +kernel
theorem d_XPlanes_reckon_85 : decode Y_XPlanes_reckon.2.1 85 = .ok (.laload, 1) := by decide +kernel
theorem d_XPlanes_reckon_86 : decode Y_XPlanes_reckon.2.1 86 = .ok (.ldc2_w 25, 3) := by decide +kernel
theorem d_XPlanes_reckon_89 : decode Y_XPlanes_reckon.2.1 89 = .ok (.lxor, 1) := by decide +kernel
theorem d_XPlanes_reckon_90 : decode Y_XPlanes_reckon.2.1 90 = .ok (.lastore, 1) := by decide +kernel
theorem d_XPlanes_reckon_91 : decode Y_XPlanes_reckon.2.1 91 = .ok (.goto (49), 3) := by decide +kernel
theorem d_XPlanes_reckon_94 : decode Y_XPlanes_reckon.2.1 94 = .ok (.aload_n 0, 1) := by decide +kernel
theorem d_XPlanes_reckon_95 : decode Y_XPlanes_reckon.2.1 95 = .ok (.getfield 15, 3) := by decide +kernel
theorem d_XPlanes_reckon_98 : decode Y_XPlanes_reckon.2.1 98 = .ok (.iload_n 1, 1) := by decide +kernel
theorem d_XPlanes_reckon_99 : decode Y_XPlanes_reckon.2.1 99 = .ok (.aload_n 0, 1) := by decide +kernel
theorem d_XPlanes_reckon_100 : decode Y_XPlanes_reckon.2.1 100 = .ok (.getfield 15, 3) := by decide +kernel
theorem d_XPlanes_reckon_103 : decode Y_XPlanes_reckon.2.1 103 = .ok (.iload_n 2, 1) := by decide +kernel
theorem d_XPlanes_reckon_104 : decode Y_XPlanes_reckon.2.1 104 = .ok (.laload, 1) := by decide +kernel
theorem d_XPlanes_reckon_105 : decode Y_XPlanes_reckon.2.1 105 = .ok (.aload_n 0, 1) := by decide +kernel
theorem d_XPlanes_reckon_106 : decode Y_XPlanes_reckon.2.1 106 = .ok (.getfield 15, 3) := by decide +kernel
theorem d_XPlanes_reckon_109 : decode Y_XPlanes_reckon.2.1 109 = .ok (.iload_n 3, 1) := by decide +kernel
theorem d_XPlanes_reckon_110 : decode Y_XPlanes_reckon.2.1 110 = .ok (.laload, 1) := by decide +kernel
theorem d_XPlanes_reckon_111 : decode Y_XPlanes_reckon.2.1 111 = .ok (.land, 1) := by decide +kernel
theorem d_XPlanes_reckon_112 : decode Y_XPlanes_reckon.2.1 112 = .ok (.lastore, 1) := by decide +kernel
theorem d_XPlanes_reckon_113 : decode Y_XPlanes_reckon.2.1 113 = .ok (.goto (27), 3) := by decide +kernel
theorem d_XPlanes_reckon_116 : decode Y_XPlanes_reckon.2.1 116 = .ok (.aload_n 0, 1) := by decide +kernel
theorem d_XPlanes_reckon_117 : decode Y_XPlanes_reckon.2.1 117 = .ok (.iload_n 1, 1) := by decide +kernel
theorem d_XPlanes_reckon_118 : decode Y_XPlanes_reckon.2.1 118 = .ok (.aload_n 0, 1) := by decide +kernel
theorem d_XPlanes_reckon_119 : decode Y_XPlanes_reckon.2.1 119 = .ok (.getfield 15, 3) := by decide +kernel
theorem d_XPlanes_reckon_122 : decode Y_XPlanes_reckon.2.1 122 = .ok (.iload_n 2, 1) := by decide +kernel
theorem d_XPlanes_reckon_123 : decode Y_XPlanes_reckon.2.1 123 = .ok (.laload, 1) := by decide +kernel
theorem d_XPlanes_reckon_124 : decode Y_XPlanes_reckon.2.1 124 = .ok (.iload_n 3, 1) := by decide +kernel
theorem d_XPlanes_reckon_125 : decode Y_XPlanes_reckon.2.1 125 = .ok (.aload_n 0, 1) := by decide +kernel
theorem d_XPlanes_reckon_126 : decode Y_XPlanes_reckon.2.1 126 = .ok (.getfield 9, 3) := by decide +kernel
theorem d_XPlanes_reckon_129 : decode Y_XPlanes_reckon.2.1 129 = .ok (.getfield 43, 3) := by decide +kernel
theorem d_XPlanes_reckon_132 : decode Y_XPlanes_reckon.2.1 132 = .ok (.iload_n 1, 1) := by decide +kernel
theorem d_XPlanes_reckon_133 : decode Y_XPlanes_reckon.2.1 133 = .ok (.iaload, 1) := by decide +kernel
theorem d_XPlanes_reckon_134 : decode Y_XPlanes_reckon.2.1 134 = .ok (.invokevirtual 46, 3) := by decide +kernel
theorem d_XPlanes_reckon_137 : decode Y_XPlanes_reckon.2.1 137 = .ok (.goto (3), 3) := by decide +kernel
theorem d_XPlanes_reckon_140 : decode Y_XPlanes_reckon.2.1 140 = .ok (.return_, 1) := by decide +kernel
def F_XPlanes_reckon_140 (n : Nat) (M : PM) : qO :=
  some (.inl none, M)
set_option maxHeartbeats 4000000 in
set_option maxRecDepth 100000 in
theorem E_XPlanes_reckon_140 {g : qG} {X : qX} {Z : qZ} (hn : 1 ≤ zn Z) (hl : 25 ≤ zl Z) {n : Nat} {M : PM} (h : F_XPlanes_reckon_140 n M = some (zr Z, zf Z)) : EW Y_XPlanes_reckon g X Z 140 [] [] M := by
  unfold F_XPlanes_reckon_140 at h
  obtain ⟨hz, hm⟩ := Prod.mk.inj (Option.some.inj h)
  exact ew_return d_XPlanes_reckon_140 rfl hz.symm hm.symm
def F_XPlanes_reckon (n : Nat) (l0 : Nat) (l1 : Int32) (M : PM) : qO :=
  gR 5 M l0 0 (fun v1 =>
  gR 3 M v1 1 (fun v2 =>
  lI M v2 l1 (fun v3 =>
  gR 5 M l0 0 (fun v4 =>
  gR 3 M v4 2 (fun v5 =>
  lI M v5 l1 (fun v6 =>
  gR 5 M l0 0 (fun v7 =>
  gR 3 M v7 0 (fun v8 =>
  lI M v8 l1 (fun v9 =>
  if v9 = (6 : Int32) then
    gR 5 M l0 1 (fun v11 =>
    kO 5 M l0 (
    cL (F_XPlanes_same n l0 v3 v6 M) (fun v13 M12 =>
    wL M12 v11 l1 v13 (fun M14 =>
    F_XPlanes_reckon_140 n M14))))
  else
  if v9 = (7 : Int32) then
    gR 5 M l0 1 (fun v16 =>
    gR 5 M l0 1 (fun v17 =>
    lL M v17 v3 (fun v18 =>
    wL M v16 l1 (v18 ^^^ (-1 : Int64)) (fun M19 =>
    F_XPlanes_reckon_140 n M19))))
  else
  if v9 = (8 : Int32) then
    gR 5 M l0 1 (fun v21 =>
    gR 5 M l0 1 (fun v22 =>
    lL M v22 v3 (fun v23 =>
    gR 5 M l0 1 (fun v24 =>
    lL M v24 v6 (fun v25 =>
    wL M v21 l1 (v23 &&& v25) (fun M26 =>
    F_XPlanes_reckon_140 n M26))))))
  else
  if v9 = (9 : Int32) then
    gR 5 M l0 1 (fun v28 =>
    lL M v28 v3 (fun v29 =>
    gR 5 M l0 0 (fun v30 =>
    gR 3 M v30 3 (fun v31 =>
    lI M v31 l1 (fun v32 =>
    kO 5 M l0 (
    cV (F_XPlanes_choose n l0 l1 v29 v6 v32 M) (fun M33 =>
    F_XPlanes_reckon_140 n M33)))))))
  else
    F_XPlanes_reckon_140 n M)))))))))
set_option maxHeartbeats 4000000 in
set_option maxRecDepth 100000 in
theorem E_XPlanes_reckon {g : qG} {X : qX} {Z : qZ} (hn : 1 ≤ zn Z) (hl : 25 ≤ zl Z) {n : Nat} {l0 : Nat} {l1 : Int32} {M : PM} (h : F_XPlanes_reckon n l0 l1 M = some (zr Z, zf Z)) : EW Y_XPlanes_reckon g X Z 0 [(0, .ref l0), (1, .int l1)] [] M := by
  unfold F_XPlanes_reckon at h
  refine ew_aload_n 0 d_XPlanes_reckon_0 rfl rfl ?_
  obtain ⟨v1, av1, bv1, h⟩ := gR_inv h
  refine ew_gR 5 0 d_XPlanes_reckon_1 fl_XPlanes_9 av1 bv1 ?_
  obtain ⟨v2, av2, bv2, h⟩ := gR_inv h
  refine ew_gR 3 1 d_XPlanes_reckon_4 fl_XPlanes_27 av2 bv2 ?_
  refine ew_iload_n 1 d_XPlanes_reckon_7 rfl rfl ?_
  obtain ⟨v3, av3, bv3, cv3, ev3, h⟩ := lI_inv h
  refine ew_lI d_XPlanes_reckon_8 av3 bv3 cv3 ev3 ?_
  refine ew_istore_n (L' := [(0, .ref l0), (1, .int l1), (2, .int v3)]) 2 [1, 2, 0] d_XPlanes_reckon_9 rfl (by decide) rfl ?_
  refine ew_aload_n 0 d_XPlanes_reckon_10 rfl rfl ?_
  obtain ⟨v4, av4, bv4, h⟩ := gR_inv h
  refine ew_gR 5 0 d_XPlanes_reckon_11 fl_XPlanes_9 av4 bv4 ?_
  obtain ⟨v5, av5, bv5, h⟩ := gR_inv h
  refine ew_gR 3 2 d_XPlanes_reckon_14 fl_XPlanes_33 av5 bv5 ?_
  refine ew_iload_n 1 d_XPlanes_reckon_17 rfl rfl ?_
  obtain ⟨v6, av6, bv6, cv6, ev6, h⟩ := lI_inv h
  refine ew_lI d_XPlanes_reckon_18 av6 bv6 cv6 ev6 ?_
  refine ew_istore_n (L' := [(0, .ref l0), (1, .int l1), (2, .int v3), (3, .int v6)]) 3 [1, 2, 3, 0] d_XPlanes_reckon_19 rfl (by decide) rfl ?_
  refine ew_aload_n 0 d_XPlanes_reckon_20 rfl rfl ?_
  obtain ⟨v7, av7, bv7, h⟩ := gR_inv h
  refine ew_gR 5 0 d_XPlanes_reckon_21 fl_XPlanes_9 av7 bv7 ?_
  obtain ⟨v8, av8, bv8, h⟩ := gR_inv h
  refine ew_gR 3 0 d_XPlanes_reckon_24 fl_XPlanes_36 av8 bv8 ?_
  refine ew_iload_n 1 d_XPlanes_reckon_27 rfl rfl ?_
  obtain ⟨v9, av9, bv9, cv9, ev9, h⟩ := lI_inv h
  refine ew_lI d_XPlanes_reckon_28 av9 bv9 cv9 ev9 ?_
  refine (Classical.em (v9 = (6 : Int32))).elim (fun c10 => ?_) (fun c10 => ?_)
  · rw [if_pos c10] at h
    refine ew_swIn 60 d_XPlanes_reckon_29 (by rw [c10]; decide) (by rw [c10]; decide) (by rw [c10]; rfl) (by decide) ?_
    refine ew_aload_n 0 d_XPlanes_reckon_60 rfl rfl ?_
    obtain ⟨v11, av11, bv11, h⟩ := gR_inv h
    refine ew_gR 5 1 d_XPlanes_reckon_61 fl_XPlanes_15 av11 bv11 ?_
    refine ew_iload_n 1 d_XPlanes_reckon_64 rfl rfl ?_
    refine ew_aload_n 0 d_XPlanes_reckon_65 rfl rfl ?_
    refine ew_iload_n 2 d_XPlanes_reckon_66 rfl rfl ?_
    refine ew_iload_n 3 d_XPlanes_reckon_67 rfl rfl ?_
    obtain ⟨kM12, h⟩ := kO_inv h
    obtain ⟨v13, M12, hM12, h⟩ := cL_inv h
    refine ew_callV 5 [.int v3, .int v6] d_XPlanes_reckon_68 cv_XPlanes_39 (T_XPlanes_same hM12) kM12 (Nat.le_trans (Nat.le_of_ble_eq_true rfl) hn) (Nat.le_trans (Nat.le_of_ble_eq_true rfl) hl) (Nat.le_of_ble_eq_true rfl) rfl rfl ?_
    obtain ⟨M14, aM14, bM14, cM14, eM14, h⟩ := wL_inv h
    refine ew_wL d_XPlanes_reckon_71 aM14 bM14 cM14 eM14 ?_
    refine ew_goto 140 d_XPlanes_reckon_72 (by decide) ?_
    exact ew_pick (L' := []) [] rfl (E_XPlanes_reckon_140 hn hl h)
  rw [if_neg c10] at h
  refine (Classical.em (v9 = (7 : Int32))).elim (fun c15 => ?_) (fun c15 => ?_)
  · rw [if_pos c15] at h
    refine ew_swIn 75 d_XPlanes_reckon_29 (by rw [c15]; decide) (by rw [c15]; decide) (by rw [c15]; rfl) (by decide) ?_
    refine ew_aload_n 0 d_XPlanes_reckon_75 rfl rfl ?_
    obtain ⟨v16, av16, bv16, h⟩ := gR_inv h
    refine ew_gR 5 1 d_XPlanes_reckon_76 fl_XPlanes_15 av16 bv16 ?_
    refine ew_iload_n 1 d_XPlanes_reckon_79 rfl rfl ?_
    refine ew_aload_n 0 d_XPlanes_reckon_80 rfl rfl ?_
    obtain ⟨v17, av17, bv17, h⟩ := gR_inv h
    refine ew_gR 5 1 d_XPlanes_reckon_81 fl_XPlanes_15 av17 bv17 ?_
    refine ew_iload_n 2 d_XPlanes_reckon_84 rfl rfl ?_
    obtain ⟨v18, av18, bv18, cv18, ev18, h⟩ := lL_inv h
    refine ew_lL d_XPlanes_reckon_85 av18 bv18 cv18 ev18 ?_
    refine ew_ldc2 (-1) d_XPlanes_reckon_86 ct_XPlanes_25 ?_
    refine ew_lxor d_XPlanes_reckon_89 ?_
    obtain ⟨M19, aM19, bM19, cM19, eM19, h⟩ := wL_inv h
    refine ew_wL d_XPlanes_reckon_90 aM19 bM19 cM19 eM19 ?_
    refine ew_goto 140 d_XPlanes_reckon_91 (by decide) ?_
    exact ew_pick (L' := []) [] rfl (E_XPlanes_reckon_140 hn hl h)
  rw [if_neg c15] at h
  refine (Classical.em (v9 = (8 : Int32))).elim (fun c20 => ?_) (fun c20 => ?_)
  · rw [if_pos c20] at h
    refine ew_swIn 94 d_XPlanes_reckon_29 (by rw [c20]; decide) (by rw [c20]; decide) (by rw [c20]; rfl) (by decide) ?_
    refine ew_aload_n 0 d_XPlanes_reckon_94 rfl rfl ?_
    obtain ⟨v21, av21, bv21, h⟩ := gR_inv h
    refine ew_gR 5 1 d_XPlanes_reckon_95 fl_XPlanes_15 av21 bv21 ?_
    refine ew_iload_n 1 d_XPlanes_reckon_98 rfl rfl ?_
    refine ew_aload_n 0 d_XPlanes_reckon_99 rfl rfl ?_
    obtain ⟨v22, av22, bv22, h⟩ := gR_inv h
    refine ew_gR 5 1 d_XPlanes_reckon_100 fl_XPlanes_15 av22 bv22 ?_
    refine ew_iload_n 2 d_XPlanes_reckon_103 rfl rfl ?_
    obtain ⟨v23, av23, bv23, cv23, ev23, h⟩ := lL_inv h
    refine ew_lL d_XPlanes_reckon_104 av23 bv23 cv23 ev23 ?_
    refine ew_aload_n 0 d_XPlanes_reckon_105 rfl rfl ?_
    obtain ⟨v24, av24, bv24, h⟩ := gR_inv h
    refine ew_gR 5 1 d_XPlanes_reckon_106 fl_XPlanes_15 av24 bv24 ?_
    refine ew_iload_n 3 d_XPlanes_reckon_109 rfl rfl ?_
    obtain ⟨v25, av25, bv25, cv25, ev25, h⟩ := lL_inv h
    refine ew_lL d_XPlanes_reckon_110 av25 bv25 cv25 ev25 ?_
    refine ew_land d_XPlanes_reckon_111 ?_
    obtain ⟨M26, aM26, bM26, cM26, eM26, h⟩ := wL_inv h
    refine ew_wL d_XPlanes_reckon_112 aM26 bM26 cM26 eM26 ?_
    refine ew_goto 140 d_XPlanes_reckon_113 (by decide) ?_
    exact ew_pick (L' := []) [] rfl (E_XPlanes_reckon_140 hn hl h)
  rw [if_neg c20] at h
  refine (Classical.em (v9 = (9 : Int32))).elim (fun c27 => ?_) (fun c27 => ?_)
  · rw [if_pos c27] at h
    refine ew_swIn 116 d_XPlanes_reckon_29 (by rw [c27]; decide) (by rw [c27]; decide) (by rw [c27]; rfl) (by decide) ?_
    refine ew_aload_n 0 d_XPlanes_reckon_116 rfl rfl ?_
    refine ew_iload_n 1 d_XPlanes_reckon_117 rfl rfl ?_
    refine ew_aload_n 0 d_XPlanes_reckon_118 rfl rfl ?_
    obtain ⟨v28, av28, bv28, h⟩ := gR_inv h
    refine ew_gR 5 1 d_XPlanes_reckon_119 fl_XPlanes_15 av28 bv28 ?_
    refine ew_iload_n 2 d_XPlanes_reckon_122 rfl rfl ?_
    obtain ⟨v29, av29, bv29, cv29, ev29, h⟩ := lL_inv h
    refine ew_lL d_XPlanes_reckon_123 av29 bv29 cv29 ev29 ?_
    refine ew_iload_n 3 d_XPlanes_reckon_124 rfl rfl ?_
    refine ew_aload_n 0 d_XPlanes_reckon_125 rfl rfl ?_
    obtain ⟨v30, av30, bv30, h⟩ := gR_inv h
    refine ew_gR 5 0 d_XPlanes_reckon_126 fl_XPlanes_9 av30 bv30 ?_
    obtain ⟨v31, av31, bv31, h⟩ := gR_inv h
    refine ew_gR 3 3 d_XPlanes_reckon_129 fl_XPlanes_43 av31 bv31 ?_
    refine ew_iload_n 1 d_XPlanes_reckon_132 rfl rfl ?_
    obtain ⟨v32, av32, bv32, cv32, ev32, h⟩ := lI_inv h
    refine ew_lI d_XPlanes_reckon_133 av32 bv32 cv32 ev32 ?_
    obtain ⟨kM33, h⟩ := kO_inv h
    obtain ⟨M33, hM33, h⟩ := cV_inv h
    refine ew_callV 5 [.int l1, .long v29, .int v6, .int v32] d_XPlanes_reckon_134 cv_XPlanes_46 (T_XPlanes_choose hM33) kM33 (Nat.le_trans (Nat.le_of_ble_eq_true rfl) hn) (Nat.le_trans (Nat.le_of_ble_eq_true rfl) hl) (Nat.le_of_ble_eq_true rfl) rfl rfl ?_
    refine ew_goto 140 d_XPlanes_reckon_137 (by decide) ?_
    exact ew_pick (L' := []) [] rfl (E_XPlanes_reckon_140 hn hl h)
  rw [if_neg c27] at h
  have zc10 := lv_neT c10 (show (6 : Int32).toInt = 6 by decide)
  have zc15 := lv_neT c15 (show (7 : Int32).toInt = 7 by decide)
  have zc20 := lv_neT c20 (show (8 : Int32).toInt = 8 by decide)
  have zc27 := lv_neT c27 (show (9 : Int32).toInt = 9 by decide)
  refine ew_swOut 140 d_XPlanes_reckon_29 (by omega) (by decide) ?_
  exact ew_pick (L' := []) [] rfl (E_XPlanes_reckon_140 hn hl h)
theorem T_XPlanes_reckon {n : Nat} {l0 : Nat} {l1 : Int32} {M Mf : PM} {res : qRs} (h : F_XPlanes_reckon n l0 l1 M = some (res, Mf)) : CT Y_XPlanes_reckon 1 25 [.ref l0, .int l1] M res Mf :=
  CT_of (by decide) (Nat.le_of_ble_eq_true rfl) (qHd_ne (by decide)) (fun g X ad0 => E_XPlanes_reckon (g := g) (X := X) (Z := (ad0, M, res, Mf, 1, 25)) (Nat.le_refl _) (Nat.le_refl _) h)
theorem d_XQuestion_init_0 : decode Y_XQuestion_init.2.1 0 = .ok (.aload_n 0, 1) := by decide +kernel
theorem d_XQuestion_init_1 : decode Y_XQuestion_init.2.1 1 = .ok (.invokespecial 3, 3) := by decide +kernel
theorem d_XQuestion_init_4 : decode Y_XQuestion_init.2.1 4 = .ok (.aload_n 0, 1) := by decide +kernel
theorem d_XQuestion_init_5 : decode Y_XQuestion_init.2.1 5 = .ok (.bipush (8), 2) := by decide +kernel
theorem d_XQuestion_init_7 : decode Y_XQuestion_init.2.1 7 = .ok (.newarray .int, 2) := by decide +kernel
theorem d_XQuestion_init_9 : decode Y_XQuestion_init.2.1 9 = .ok (.putfield 9, 3) := by decide +kernel
theorem d_XQuestion_init_12 : decode Y_XQuestion_init.2.1 12 = .ok (.aload_n 0, 1) := by decide +kernel
theorem d_XQuestion_init_13 : decode Y_XQuestion_init.2.1 13 = .ok (.bipush (16), 2) := by decide +kernel
theorem d_XQuestion_init_15 : decode Y_XQuestion_init.2.1 15 = .ok (.newarray .int, 2) := by decide +kernel
theorem d_XQuestion_init_17 : decode Y_XQuestion_init.2.1 17 = .ok (.putfield 15, 3) := by decide +kernel
theorem d_XQuestion_init_20 : decode Y_XQuestion_init.2.1 20 = .ok (.aload_n 0, 1) := by decide +kernel
theorem d_XQuestion_init_21 : decode Y_XQuestion_init.2.1 21 = .ok (.bipush (16), 2) := by decide +kernel
theorem d_XQuestion_init_23 : decode Y_XQuestion_init.2.1 23 = .ok (.newarray .int, 2) := by decide +kernel
theorem d_XQuestion_init_25 : decode Y_XQuestion_init.2.1 25 = .ok (.putfield 18, 3) := by decide +kernel
theorem d_XQuestion_init_28 : decode Y_XQuestion_init.2.1 28 = .ok (.return_, 1) := by decide +kernel
def F_XQuestion_init (n : Nat) (l0 : Nat) (M : PM) : qO :=
  mA 0 M (8 : Int32) (fun q1 M2 =>
  pF 7 M2 l0 0 (.ref q1) (fun M3 =>
  mA 0 M3 (16 : Int32) (fun q4 M5 =>
  pF 7 M5 l0 1 (.ref q4) (fun M6 =>
  mA 0 M6 (16 : Int32) (fun q7 M8 =>
  pF 7 M8 l0 2 (.ref q7) (fun M9 =>
  some (.inl none, M9)))))))
set_option maxHeartbeats 4000000 in
set_option maxRecDepth 100000 in
theorem E_XQuestion_init {g : qG} {X : qX} {Z : qZ} (hn : 1 ≤ zn Z) (hl : 40 ≤ zl Z) {n : Nat} {l0 : Nat} {M : PM} (h : F_XQuestion_init n l0 M = some (zr Z, zf Z)) : EW Y_XQuestion_init g X Z 0 [(0, .ref l0)] [] M := by
  unfold F_XQuestion_init at h
  refine ew_aload_n 0 d_XQuestion_init_0 rfl rfl ?_
  refine ew_objInit d_XQuestion_init_1 ob_XQuestion_3 (Nat.le_trans (Nat.le_of_ble_eq_true rfl) hn) (Nat.le_trans (Nat.le_of_ble_eq_true rfl) hl) ?_
  refine ew_aload_n 0 d_XQuestion_init_4 rfl rfl ?_
  refine ew_bipush (8) d_XQuestion_init_5 (by decide +kernel) ?_
  obtain ⟨q1, M2, aq1, bq1, eq1, fq1, h⟩ := mA_inv h
  refine ew_mA0 d_XQuestion_init_7 aq1 bq1 eq1 fq1 ?_
  obtain ⟨M3, aM3, eM3, h⟩ := pF_inv h
  refine ew_pFF 7 0 d_XQuestion_init_9 fl_XQuestion_9 rfl rfl aM3 eM3 (fun ad => ⟨rfl, rfl⟩) ?_
  refine ew_aload_n 0 d_XQuestion_init_12 rfl rfl ?_
  refine ew_bipush (16) d_XQuestion_init_13 (by decide +kernel) ?_
  obtain ⟨q4, M5, aq4, bq4, eq4, fq4, h⟩ := mA_inv h
  refine ew_mA0 d_XQuestion_init_15 aq4 bq4 eq4 fq4 ?_
  obtain ⟨M6, aM6, eM6, h⟩ := pF_inv h
  refine ew_pFF 7 1 d_XQuestion_init_17 fl_XQuestion_15 rfl rfl aM6 eM6 (fun ad => ⟨rfl, rfl⟩) ?_
  refine ew_aload_n 0 d_XQuestion_init_20 rfl rfl ?_
  refine ew_bipush (16) d_XQuestion_init_21 (by decide +kernel) ?_
  obtain ⟨q7, M8, aq7, bq7, eq7, fq7, h⟩ := mA_inv h
  refine ew_mA0 d_XQuestion_init_23 aq7 bq7 eq7 fq7 ?_
  obtain ⟨M9, aM9, eM9, h⟩ := pF_inv h
  refine ew_pFF 7 2 d_XQuestion_init_25 fl_XQuestion_18 rfl rfl aM9 eM9 (fun ad => ⟨rfl, rfl⟩) ?_
  obtain ⟨hz, hm⟩ := Prod.mk.inj (Option.some.inj h)
  exact ew_return d_XQuestion_init_28 rfl hz.symm hm.symm
theorem T_XQuestion_init {n : Nat} {l0 : Nat} {M Mf : PM} {res : qRs} (h : F_XQuestion_init n l0 M = some (res, Mf)) : CT Y_XQuestion_init 1 40 [.ref l0] M res Mf :=
  CT_of (by decide) (Nat.le_of_ble_eq_true rfl) (qHd_ne (by decide)) (fun g X ad0 => E_XQuestion_init (g := g) (X := X) (Z := (ad0, M, res, Mf, 1, 40)) (Nat.le_refl _) (Nat.le_refl _) h)
