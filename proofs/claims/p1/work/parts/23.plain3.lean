theorem d_XPlanes_reckon_0 : decode Y_XPlanes_reckon.2.1 0 = .ok (.aload_n 0, 1) := by decide +kernel
theorem d_XPlanes_reckon_1 : decode Y_XPlanes_reckon.2.1 1 = .ok (.getfield 9, 3) := by decide +kernel
theorem d_XPlanes_reckon_4 : decode Y_XPlanes_reckon.2.1 4 = .ok (.getfield 33, 3) := by decide +kernel
theorem d_XPlanes_reckon_7 : decode Y_XPlanes_reckon.2.1 7 = .ok (.iload_n 1, 1) := by decide +kernel
theorem d_XPlanes_reckon_8 : decode Y_XPlanes_reckon.2.1 8 = .ok (.iaload, 1) := by decide +kernel
theorem d_XPlanes_reckon_9 : decode Y_XPlanes_reckon.2.1 9 = .ok (.istore_n 2, 1) := by decide +kernel
theorem d_XPlanes_reckon_10 : decode Y_XPlanes_reckon.2.1 10 = .ok (.aload_n 0, 1) := by decide +kernel
theorem d_XPlanes_reckon_11 : decode Y_XPlanes_reckon.2.1 11 = .ok (.getfield 9, 3) := by decide +kernel
theorem d_XPlanes_reckon_14 : decode Y_XPlanes_reckon.2.1 14 = .ok (.getfield 37, 3) := by decide +kernel
theorem d_XPlanes_reckon_17 : decode Y_XPlanes_reckon.2.1 17 = .ok (.iload_n 1, 1) := by decide +kernel
theorem d_XPlanes_reckon_18 : decode Y_XPlanes_reckon.2.1 18 = .ok (.iaload, 1) := by decide +kernel
theorem d_XPlanes_reckon_19 : decode Y_XPlanes_reckon.2.1 19 = .ok (.istore_n 3, 1) := by decide +kernel
theorem d_XPlanes_reckon_20 : decode Y_XPlanes_reckon.2.1 20 = .ok (.aload_n 0, 1) := by decide +kernel
theorem d_XPlanes_reckon_21 : decode Y_XPlanes_reckon.2.1 21 = .ok (.getfield 9, 3) := by decide +kernel
theorem d_XPlanes_reckon_24 : decode Y_XPlanes_reckon.2.1 24 = .ok (.getfield 40, 3) := by decide +kernel
theorem d_XPlanes_reckon_27 : decode Y_XPlanes_reckon.2.1 27 = .ok (.iload_n 1, 1) := by decide +kernel
theorem d_XPlanes_reckon_28 : decode Y_XPlanes_reckon.2.1 28 = .ok (.iaload, 1) := by decide +kernel
theorem d_XPlanes_reckon_29 : decode Y_XPlanes_reckon.2.1 29 = .ok (.tableswitch (111) 6 9 #[31, 46, 65, 87], 31) := by decide +kernel
theorem d_XPlanes_reckon_60 : decode Y_XPlanes_reckon.2.1 60 = .ok (.aload_n 0, 1) := by decide +kernel
theorem d_XPlanes_reckon_61 : decode Y_XPlanes_reckon.2.1 61 = .ok (.getfield 21, 3) := by decide +kernel
theorem d_XPlanes_reckon_64 : decode Y_XPlanes_reckon.2.1 64 = .ok (.iload_n 1, 1) := by decide +kernel
theorem d_XPlanes_reckon_65 : decode Y_XPlanes_reckon.2.1 65 = .ok (.aload_n 0, 1) := by decide +kernel
theorem d_XPlanes_reckon_66 : decode Y_XPlanes_reckon.2.1 66 = .ok (.iload_n 2, 1) := by decide +kernel
theorem d_XPlanes_reckon_67 : decode Y_XPlanes_reckon.2.1 67 = .ok (.iload_n 3, 1) := by decide +kernel
theorem d_XPlanes_reckon_68 : decode Y_XPlanes_reckon.2.1 68 = .ok (.invokevirtual 43, 3) := by decide +kernel
theorem d_XPlanes_reckon_71 : decode Y_XPlanes_reckon.2.1 71 = .ok (.lastore, 1) := by decide +kernel
theorem d_XPlanes_reckon_72 : decode Y_XPlanes_reckon.2.1 72 = .ok (.goto (68), 3) := by decide +kernel
theorem d_XPlanes_reckon_75 : decode Y_XPlanes_reckon.2.1 75 = .ok (.aload_n 0, 1) := by decide +kernel
theorem d_XPlanes_reckon_76 : decode Y_XPlanes_reckon.2.1 76 = .ok (.getfield 21, 3) := by decide +kernel
theorem d_XPlanes_reckon_79 : decode Y_XPlanes_reckon.2.1 79 = .ok (.iload_n 1, 1) := by decide +kernel
theorem d_XPlanes_reckon_80 : decode Y_XPlanes_reckon.2.1 80 = .ok (.aload_n 0, 1) := by decide +kernel
theorem d_XPlanes_reckon_81 : decode Y_XPlanes_reckon.2.1 81 = .ok (.getfield 21, 3) := by decide +kernel
theorem d_XPlanes_reckon_84 : decode Y_XPlanes_reckon.2.1 84 = .ok (.iload_n 2, 1) := by decide +kernel
theorem d_XPlanes_reckon_85 : decode Y_XPlanes_reckon.2.1 85 = .ok (.laload, 1) := by decide +kernel
theorem d_XPlanes_reckon_86 : decode Y_XPlanes_reckon.2.1 86 = .ok (.ldc2_w 31, 3) := by decide +kernel
theorem d_XPlanes_reckon_89 : decode Y_XPlanes_reckon.2.1 89 = .ok (.lxor, 1) := by decide +kernel
theorem d_XPlanes_reckon_90 : decode Y_XPlanes_reckon.2.1 90 = .ok (.lastore, 1) := by decide +kernel
theorem d_XPlanes_reckon_91 : decode Y_XPlanes_reckon.2.1 91 = .ok (.goto (49), 3) := by decide +kernel
theorem d_XPlanes_reckon_94 : decode Y_XPlanes_reckon.2.1 94 = .ok (.aload_n 0, 1) := by decide +kernel
theorem d_XPlanes_reckon_95 : decode Y_XPlanes_reckon.2.1 95 = .ok (.getfield 21, 3) := by decide +kernel
theorem d_XPlanes_reckon_98 : decode Y_XPlanes_reckon.2.1 98 = .ok (.iload_n 1, 1) := by decide +kernel
theorem d_XPlanes_reckon_99 : decode Y_XPlanes_reckon.2.1 99 = .ok (.aload_n 0, 1) := by decide +kernel
theorem d_XPlanes_reckon_100 : decode Y_XPlanes_reckon.2.1 100 = .ok (.getfield 21, 3) := by decide +kernel
theorem d_XPlanes_reckon_103 : decode Y_XPlanes_reckon.2.1 103 = .ok (.iload_n 2, 1) := by decide +kernel
theorem d_XPlanes_reckon_104 : decode Y_XPlanes_reckon.2.1 104 = .ok (.laload, 1) := by decide +kernel
theorem d_XPlanes_reckon_105 : decode Y_XPlanes_reckon.2.1 105 = .ok (.aload_n 0, 1) := by decide +kernel
theorem d_XPlanes_reckon_106 : decode Y_XPlanes_reckon.2.1 106 = .ok (.getfield 21, 3) := by decide +kernel
theorem d_XPlanes_reckon_109 : decode Y_XPlanes_reckon.2.1 109 = .ok (.iload_n 3, 1) := by decide +kernel
theorem d_XPlanes_reckon_110 : decode Y_XPlanes_reckon.2.1 110 = .ok (.laload, 1) := by decide +kernel
theorem d_XPlanes_reckon_111 : decode Y_XPlanes_reckon.2.1 111 = .ok (.land, 1) := by decide +kernel
theorem d_XPlanes_reckon_112 : decode Y_XPlanes_reckon.2.1 112 = .ok (.lastore, 1) := by decide +kernel
theorem d_XPlanes_reckon_113 : decode Y_XPlanes_reckon.2.1 113 = .ok (.goto (27), 3) := by decide +kernel
theorem d_XPlanes_reckon_116 : decode Y_XPlanes_reckon.2.1 116 = .ok (.aload_n 0, 1) := by decide +kernel
theorem d_XPlanes_reckon_117 : decode Y_XPlanes_reckon.2.1 117 = .ok (.iload_n 1, 1) := by decide +kernel
theorem d_XPlanes_reckon_118 : decode Y_XPlanes_reckon.2.1 118 = .ok (.aload_n 0, 1) := by decide +kernel
theorem d_XPlanes_reckon_119 : decode Y_XPlanes_reckon.2.1 119 = .ok (.getfield 21, 3) := by decide +kernel
theorem d_XPlanes_reckon_122 : decode Y_XPlanes_reckon.2.1 122 = .ok (.iload_n 2, 1) := by decide +kernel
theorem d_XPlanes_reckon_123 : decode Y_XPlanes_reckon.2.1 123 = .ok (.laload, 1) := by decide +kernel
theorem d_XPlanes_reckon_124 : decode Y_XPlanes_reckon.2.1 124 = .ok (.iload_n 3, 1) := by decide +kernel
theorem d_XPlanes_reckon_125 : decode Y_XPlanes_reckon.2.1 125 = .ok (.aload_n 0, 1) := by decide +kernel
theorem d_XPlanes_reckon_126 : decode Y_XPlanes_reckon.2.1 126 = .ok (.getfield 9, 3) := by decide +kernel
theorem d_XPlanes_reckon_129 : decode Y_XPlanes_reckon.2.1 129 = .ok (.getfield 47, 3) := by decide +kernel
theorem d_XPlanes_reckon_132 : decode Y_XPlanes_reckon.2.1 132 = .ok (.iload_n 1, 1) := by decide +kernel
theorem d_XPlanes_reckon_133 : decode Y_XPlanes_reckon.2.1 133 = .ok (.iaload, 1) := by decide +kernel
theorem d_XPlanes_reckon_134 : decode Y_XPlanes_reckon.2.1 134 = .ok (.invokevirtual 50, 3) := by decide +kernel
theorem d_XPlanes_reckon_137 : decode Y_XPlanes_reckon.2.1 137 = .ok (.goto (3), 3) := by decide +kernel
theorem d_XPlanes_reckon_140 : decode Y_XPlanes_reckon.2.1 140 = .ok (.return_, 1) := by decide +kernel
def F_XPlanes_reckon_140 (n : Nat) (M : PM) : qO :=
  some (.inl none, M)
set_option maxHeartbeats 4000000 in
set_option maxRecDepth 100000 in
theorem E_XPlanes_reckon_140 {g : qG} {X : qX} {Z : qZ} (hn : 1 ≤ zn Z) (hl : 25 ≤ zl Z) {n : Nat} {M : PM} (h : F_XPlanes_reckon_140 n M = some (zr Z, zf Z)) : EW Y_XPlanes_reckon g X Z 140 [] [] M := by
  unfold F_XPlanes_reckon_140 at h
  obtain ⟨hz, hm⟩ := Prod.mk.inj (Option.some.inj h)
  exact ew_return d_XPlanes_reckon_140 rfl hz.symm hm.symm
def F_XPlanes_reckon (n : Nat) (l0 : Nat) (l1 : Int32) (M : PM) : qO :=
  gR 4 M l0 0 (fun v1 =>
  gR 2 M v1 1 (fun v2 =>
  lI M v2 l1 (fun v3 =>
  gR 4 M l0 0 (fun v4 =>
  gR 2 M v4 2 (fun v5 =>
  lI M v5 l1 (fun v6 =>
  gR 4 M l0 0 (fun v7 =>
  gR 2 M v7 0 (fun v8 =>
  lI M v8 l1 (fun v9 =>
  if v9 = (6 : Int32) then
    gR 4 M l0 1 (fun v11 =>
    kO 4 M l0 (
    cL (F_XPlanes_same n l0 v3 v6 M) (fun v13 M12 =>
    wL M12 v11 l1 v13 (fun M14 =>
    F_XPlanes_reckon_140 n M14))))
  else
  if v9 = (7 : Int32) then
    gR 4 M l0 1 (fun v16 =>
    gR 4 M l0 1 (fun v17 =>
    lL M v17 v3 (fun v18 =>
    wL M v16 l1 (v18 ^^^ (-1 : Int64)) (fun M19 =>
    F_XPlanes_reckon_140 n M19))))
  else
  if v9 = (8 : Int32) then
    gR 4 M l0 1 (fun v21 =>
    gR 4 M l0 1 (fun v22 =>
    lL M v22 v3 (fun v23 =>
    gR 4 M l0 1 (fun v24 =>
    lL M v24 v6 (fun v25 =>
    wL M v21 l1 (v23 &&& v25) (fun M26 =>
    F_XPlanes_reckon_140 n M26))))))
  else
  if v9 = (9 : Int32) then
    gR 4 M l0 1 (fun v28 =>
    lL M v28 v3 (fun v29 =>
    gR 4 M l0 0 (fun v30 =>
    gR 2 M v30 3 (fun v31 =>
    lI M v31 l1 (fun v32 =>
    kO 4 M l0 (
    cV (F_XPlanes_choose n l0 l1 v29 v6 v32 M) (fun M33 =>
    F_XPlanes_reckon_140 n M33)))))))
  else
    F_XPlanes_reckon_140 n M)))))))))
set_option maxHeartbeats 4000000 in
set_option maxRecDepth 100000 in
theorem E_XPlanes_reckon {g : qG} {X : qX} {Z : qZ} (hn : 1 ≤ zn Z) (hl : 25 ≤ zl Z) {n : Nat} {l0 : Nat} {l1 : Int32} {M : PM} (h : F_XPlanes_reckon n l0 l1 M = some (zr Z, zf Z)) : EW Y_XPlanes_reckon g X Z 0 [(0, .ref l0), (1, .int l1)] [] M := by
  unfold F_XPlanes_reckon at h
  refine ew_aload_n 0 d_XPlanes_reckon_0 rfl rfl ?_
  obtain ⟨v1, av1, bv1, h⟩ := gR_inv h
  refine ew_gR 4 0 d_XPlanes_reckon_1 fl_XPlanes_9 av1 bv1 ?_
  obtain ⟨v2, av2, bv2, h⟩ := gR_inv h
  refine ew_gR 2 1 d_XPlanes_reckon_4 fl_XPlanes_33 av2 bv2 ?_
  refine ew_iload_n 1 d_XPlanes_reckon_7 rfl rfl ?_
  obtain ⟨v3, av3, bv3, cv3, ev3, h⟩ := lI_inv h
  refine ew_lI d_XPlanes_reckon_8 av3 bv3 cv3 ev3 ?_
  refine ew_istore_n (L' := [(0, .ref l0), (1, .int l1), (2, .int v3)]) 2 [1, 2, 0] d_XPlanes_reckon_9 rfl (by decide) rfl ?_
  refine ew_aload_n 0 d_XPlanes_reckon_10 rfl rfl ?_
  obtain ⟨v4, av4, bv4, h⟩ := gR_inv h
  refine ew_gR 4 0 d_XPlanes_reckon_11 fl_XPlanes_9 av4 bv4 ?_
  obtain ⟨v5, av5, bv5, h⟩ := gR_inv h
  refine ew_gR 2 2 d_XPlanes_reckon_14 fl_XPlanes_37 av5 bv5 ?_
  refine ew_iload_n 1 d_XPlanes_reckon_17 rfl rfl ?_
  obtain ⟨v6, av6, bv6, cv6, ev6, h⟩ := lI_inv h
  refine ew_lI d_XPlanes_reckon_18 av6 bv6 cv6 ev6 ?_
  refine ew_istore_n (L' := [(0, .ref l0), (1, .int l1), (2, .int v3), (3, .int v6)]) 3 [1, 2, 3, 0] d_XPlanes_reckon_19 rfl (by decide) rfl ?_
  refine ew_aload_n 0 d_XPlanes_reckon_20 rfl rfl ?_
  obtain ⟨v7, av7, bv7, h⟩ := gR_inv h
  refine ew_gR 4 0 d_XPlanes_reckon_21 fl_XPlanes_9 av7 bv7 ?_
  obtain ⟨v8, av8, bv8, h⟩ := gR_inv h
  refine ew_gR 2 0 d_XPlanes_reckon_24 fl_XPlanes_40 av8 bv8 ?_
  refine ew_iload_n 1 d_XPlanes_reckon_27 rfl rfl ?_
  obtain ⟨v9, av9, bv9, cv9, ev9, h⟩ := lI_inv h
  refine ew_lI d_XPlanes_reckon_28 av9 bv9 cv9 ev9 ?_
  refine (Classical.em (v9 = (6 : Int32))).elim (fun c10 => ?_) (fun c10 => ?_)
  · rw [if_pos c10] at h
    refine ew_swIn 60 d_XPlanes_reckon_29 (by rw [c10]; decide) (by rw [c10]; decide) (by rw [c10]; rfl) (by decide) ?_
    refine ew_aload_n 0 d_XPlanes_reckon_60 rfl rfl ?_
    obtain ⟨v11, av11, bv11, h⟩ := gR_inv h
    refine ew_gR 4 1 d_XPlanes_reckon_61 fl_XPlanes_21 av11 bv11 ?_
    refine ew_iload_n 1 d_XPlanes_reckon_64 rfl rfl ?_
    refine ew_aload_n 0 d_XPlanes_reckon_65 rfl rfl ?_
    refine ew_iload_n 2 d_XPlanes_reckon_66 rfl rfl ?_
    refine ew_iload_n 3 d_XPlanes_reckon_67 rfl rfl ?_
    obtain ⟨kM12, h⟩ := kO_inv h
    obtain ⟨v13, M12, hM12, h⟩ := cL_inv h
    refine ew_callV 4 [.int v3, .int v6] d_XPlanes_reckon_68 cv_XPlanes_43 (T_XPlanes_same hM12) kM12 (Nat.le_trans (Nat.le_of_ble_eq_true rfl) hn) (Nat.le_trans (Nat.le_of_ble_eq_true rfl) hl) (Nat.le_of_ble_eq_true rfl) rfl rfl ?_
    obtain ⟨M14, aM14, bM14, cM14, eM14, h⟩ := wL_inv h
    refine ew_wL d_XPlanes_reckon_71 aM14 bM14 cM14 eM14 ?_
    refine ew_goto 140 d_XPlanes_reckon_72 (by decide) ?_
    exact ew_pick (L' := []) [] rfl (E_XPlanes_reckon_140 hn hl h)
  rw [if_neg c10] at h
  refine (Classical.em (v9 = (7 : Int32))).elim (fun c15 => ?_) (fun c15 => ?_)
  · rw [if_pos c15] at h
    refine ew_swIn 75 d_XPlanes_reckon_29 (by rw [c15]; decide) (by rw [c15]; decide) (by rw [c15]; rfl) (by decide) ?_
    refine ew_aload_n 0 d_XPlanes_reckon_75 rfl rfl ?_
    obtain ⟨v16, av16, bv16, h⟩ := gR_inv h
    refine ew_gR 4 1 d_XPlanes_reckon_76 fl_XPlanes_21 av16 bv16 ?_
    refine ew_iload_n 1 d_XPlanes_reckon_79 rfl rfl ?_
    refine ew_aload_n 0 d_XPlanes_reckon_80 rfl rfl ?_
    obtain ⟨v17, av17, bv17, h⟩ := gR_inv h
    refine ew_gR 4 1 d_XPlanes_reckon_81 fl_XPlanes_21 av17 bv17 ?_
    refine ew_iload_n 2 d_XPlanes_reckon_84 rfl rfl ?_
    obtain ⟨v18, av18, bv18, cv18, ev18, h⟩ := lL_inv h
    refine ew_lL d_XPlanes_reckon_85 av18 bv18 cv18 ev18 ?_
    refine ew_ldc2 (-1) d_XPlanes_reckon_86 ct_XPlanes_31 ?_
    refine ew_lxor d_XPlanes_reckon_89 ?_
    obtain ⟨M19, aM19, bM19, cM19, eM19, h⟩ := wL_inv h
    refine ew_wL d_XPlanes_reckon_90 aM19 bM19 cM19 eM19 ?_
    refine ew_goto 140 d_XPlanes_reckon_91 (by decide) ?_
    exact ew_pick (L' := []) [] rfl (E_XPlanes_reckon_140 hn hl h)
  rw [if_neg c15] at h
  refine (Classical.em (v9 = (8 : Int32))).elim (fun c20 => ?_) (fun c20 => ?_)
  · rw [if_pos c20] at h
    refine ew_swIn 94 d_XPlanes_reckon_29 (by rw [c20]; decide) (by rw [c20]; decide) (by rw [c20]; rfl) (by decide) ?_
    refine ew_aload_n 0 d_XPlanes_reckon_94 rfl rfl ?_
    obtain ⟨v21, av21, bv21, h⟩ := gR_inv h
    refine ew_gR 4 1 d_XPlanes_reckon_95 fl_XPlanes_21 av21 bv21 ?_
    refine ew_iload_n 1 d_XPlanes_reckon_98 rfl rfl ?_
    refine ew_aload_n 0 d_XPlanes_reckon_99 rfl rfl ?_
    obtain ⟨v22, av22, bv22, h⟩ := gR_inv h
    refine ew_gR 4 1 d_XPlanes_reckon_100 fl_XPlanes_21 av22 bv22 ?_
    refine ew_iload_n 2 d_XPlanes_reckon_103 rfl rfl ?_
    obtain ⟨v23, av23, bv23, cv23, ev23, h⟩ := lL_inv h
    refine ew_lL d_XPlanes_reckon_104 av23 bv23 cv23 ev23 ?_
    refine ew_aload_n 0 d_XPlanes_reckon_105 rfl rfl ?_
    obtain ⟨v24, av24, bv24, h⟩ := gR_inv h
    refine ew_gR 4 1 d_XPlanes_reckon_106 fl_XPlanes_21 av24 bv24 ?_
    refine ew_iload_n 3 d_XPlanes_reckon_109 rfl rfl ?_
    obtain ⟨v25, av25, bv25, cv25, ev25, h⟩ := lL_inv h
    refine ew_lL d_XPlanes_reckon_110 av25 bv25 cv25 ev25 ?_
    refine ew_land d_XPlanes_reckon_111 ?_
    obtain ⟨M26, aM26, bM26, cM26, eM26, h⟩ := wL_inv h
    refine ew_wL d_XPlanes_reckon_112 aM26 bM26 cM26 eM26 ?_
    refine ew_goto 140 d_XPlanes_reckon_113 (by decide) ?_
    exact ew_pick (L' := []) [] rfl (E_XPlanes_reckon_140 hn hl h)
  rw [if_neg c20] at h
  refine (Classical.em (v9 = (9 : Int32))).elim (fun c27 => ?_) (fun c27 => ?_)
  · rw [if_pos c27] at h
    refine ew_swIn 116 d_XPlanes_reckon_29 (by rw [c27]; decide) (by rw [c27]; decide) (by rw [c27]; rfl) (by decide) ?_
    refine ew_aload_n 0 d_XPlanes_reckon_116 rfl rfl ?_
    refine ew_iload_n 1 d_XPlanes_reckon_117 rfl rfl ?_
    refine ew_aload_n 0 d_XPlanes_reckon_118 rfl rfl ?_
    obtain ⟨v28, av28, bv28, h⟩ := gR_inv h
    refine ew_gR 4 1 d_XPlanes_reckon_119 fl_XPlanes_21 av28 bv28 ?_
    refine ew_iload_n 2 d_XPlanes_reckon_122 rfl rfl ?_
    obtain ⟨v29, av29, bv29, cv29, ev29, h⟩ := lL_inv h
    refine ew_lL d_XPlanes_reckon_123 av29 bv29 cv29 ev29 ?_
    refine ew_iload_n 3 d_XPlanes_reckon_124 rfl rfl ?_
    refine ew_aload_n 0 d_XPlanes_reckon_125 rfl rfl ?_
    obtain ⟨v30, av30, bv30, h⟩ := gR_inv h
    refine ew_gR 4 0 d_XPlanes_reckon_126 fl_XPlanes_9 av30 bv30 ?_
    obtain ⟨v31, av31, bv31, h⟩ := gR_inv h
    refine ew_gR 2 3 d_XPlanes_reckon_129 fl_XPlanes_47 av31 bv31 ?_
    refine ew_iload_n 1 d_XPlanes_reckon_132 rfl rfl ?_
    obtain ⟨v32, av32, bv32, cv32, ev32, h⟩ := lI_inv h
    refine ew_lI d_XPlanes_reckon_133 av32 bv32 cv32 ev32 ?_
    obtain ⟨kM33, h⟩ := kO_inv h
    obtain ⟨M33, hM33, h⟩ := cV_inv h
    refine ew_callV 4 [.int l1, .long v29, .int v6, .int v32] d_XPlanes_reckon_134 cv_XPlanes_50 (T_XPlanes_choose hM33) kM33 (Nat.le_trans (Nat.le_of_ble_eq_true rfl) hn) (Nat.le_trans (Nat.le_of_ble_eq_true rfl) hl) (Nat.le_of_ble_eq_true rfl) rfl rfl ?_
    refine ew_goto 140 d_XPlanes_reckon_137 (by decide) ?_
    exact ew_pick (L' := []) [] rfl (E_XPlanes_reckon_140 hn hl h)
  rw [if_neg c27] at h
  have zc10 := lv_neT c10 (show (6 : Int32).toInt = 6 by decide)
  have zc15 := lv_neT c15 (show (7 : Int32).toInt = 7 by decide)
  have zc20 := lv_neT c20 (show (8 : Int32).toInt = 8 by decide)
  have zc27 := lv_neT c27 (show (9 : Int32).toInt = 9 by decide)
  refine ew_swOut 140 d_XPlanes_reckon_29 (by omega) (by decide) ?_
  exact ew_pick (L' := []) [] rfl (E_XPlanes_reckon_140 hn hl h)
theorem T_XPlanes_reckon {n : Nat} {l0 : Nat} {l1 : Int32} {M Mf : PM} {res : qRs} (h : F_XPlanes_reckon n l0 l1 M = some (res, Mf)) : CT Y_XPlanes_reckon 1 25 [.ref l0, .int l1] M res Mf :=
  CT_of (by decide) (Nat.le_of_ble_eq_true rfl) (qHd_ne (by decide)) (fun g X ad0 => E_XPlanes_reckon (g := g) (X := X) (Z := (ad0, M, res, Mf, 1, 25)) (Nat.le_refl _) (Nat.le_refl _) h)
theorem d_XQuestion_init_0 : decode Y_XQuestion_init.2.1 0 = .ok (.aload_n 0, 1) := by decide +kernel
theorem d_XQuestion_init_1 : decode Y_XQuestion_init.2.1 1 = .ok (.invokespecial 3, 3) := by decide +kernel
theorem d_XQuestion_init_4 : decode Y_XQuestion_init.2.1 4 = .ok (.aload_n 0, 1) := by decide +kernel
theorem d_XQuestion_init_5 : decode Y_XQuestion_init.2.1 5 = .ok (.bipush (8), 2) := by decide +kernel
theorem d_XQuestion_init_7 : decode Y_XQuestion_init.2.1 7 = .ok (.newarray .int, 2) := by decide +kernel
theorem d_XQuestion_init_9 : decode Y_XQuestion_init.2.1 9 = .ok (.putfield 9, 3) := by decide +kernel
theorem d_XQuestion_init_12 : decode Y_XQuestion_init.2.1 12 = .ok (.aload_n 0, 1) := by decide +kernel
theorem d_XQuestion_init_13 : decode Y_XQuestion_init.2.1 13 = .ok (.bipush (16), 2) := by decide +kernel
theorem d_XQuestion_init_15 : decode Y_XQuestion_init.2.1 15 = .ok (.newarray .int, 2) := by decide +kernel
theorem d_XQuestion_init_17 : decode Y_XQuestion_init.2.1 17 = .ok (.putfield 15, 3) := by decide +kernel
theorem d_XQuestion_init_20 : decode Y_XQuestion_init.2.1 20 = .ok (.aload_n 0, 1) := by decide +kernel
theorem d_XQuestion_init_21 : decode Y_XQuestion_init.2.1 21 = .ok (.bipush (16), 2) := by decide +kernel
theorem d_XQuestion_init_23 : decode Y_XQuestion_init.2.1 23 = .ok (.newarray .int, 2) := by decide +kernel
theorem d_XQuestion_init_25 : decode Y_XQuestion_init.2.1 25 = .ok (.putfield 18, 3) := by decide +kernel
theorem d_XQuestion_init_28 : decode Y_XQuestion_init.2.1 28 = .ok (.return_, 1) := by decide +kernel
def F_XQuestion_init (n : Nat) (l0 : Nat) (M : PM) : qO :=
  mA 0 M (8 : Int32) (fun q1 M2 =>
  pF 6 M2 l0 0 (.ref q1) (fun M3 =>
  mA 0 M3 (16 : Int32) (fun q4 M5 =>
  pF 6 M5 l0 1 (.ref q4) (fun M6 =>
  mA 0 M6 (16 : Int32) (fun q7 M8 =>
  pF 6 M8 l0 2 (.ref q7) (fun M9 =>
  some (.inl none, M9)))))))
set_option maxHeartbeats 4000000 in
set_option maxRecDepth 100000 in
theorem E_XQuestion_init {g : qG} {X : qX} {Z : qZ} (hn : 1 ≤ zn Z) (hl : 40 ≤ zl Z) {n : Nat} {l0 : Nat} {M : PM} (h : F_XQuestion_init n l0 M = some (zr Z, zf Z)) : EW Y_XQuestion_init g X Z 0 [(0, .ref l0)] [] M := by
  unfold F_XQuestion_init at h
  refine ew_aload_n 0 d_XQuestion_init_0 rfl rfl ?_
  refine ew_objInit d_XQuestion_init_1 ob_XQuestion_3 (Nat.le_trans (Nat.le_of_ble_eq_true rfl) hn) (Nat.le_trans (Nat.le_of_ble_eq_true rfl) hl) ?_
  refine ew_aload_n 0 d_XQuestion_init_4 rfl rfl ?_
  refine ew_bipush (8) d_XQuestion_init_5 (by decide +kernel) ?_
  obtain ⟨q1, M2, aq1, bq1, eq1, fq1, h⟩ := mA_inv h
  refine ew_mA0 d_XQuestion_init_7 aq1 bq1 eq1 fq1 ?_
  obtain ⟨M3, aM3, eM3, h⟩ := pF_inv h
  refine ew_pFF 6 0 d_XQuestion_init_9 fl_XQuestion_9 rfl rfl aM3 eM3 (fun ad => ⟨rfl, rfl⟩) ?_
  refine ew_aload_n 0 d_XQuestion_init_12 rfl rfl ?_
  refine ew_bipush (16) d_XQuestion_init_13 (by decide +kernel) ?_
  obtain ⟨q4, M5, aq4, bq4, eq4, fq4, h⟩ := mA_inv h
  refine ew_mA0 d_XQuestion_init_15 aq4 bq4 eq4 fq4 ?_
  obtain ⟨M6, aM6, eM6, h⟩ := pF_inv h
  refine ew_pFF 6 1 d_XQuestion_init_17 fl_XQuestion_15 rfl rfl aM6 eM6 (fun ad => ⟨rfl, rfl⟩) ?_
  refine ew_aload_n 0 d_XQuestion_init_20 rfl rfl ?_
  refine ew_bipush (16) d_XQuestion_init_21 (by decide +kernel) ?_
  obtain ⟨q7, M8, aq7, bq7, eq7, fq7, h⟩ := mA_inv h
  refine ew_mA0 d_XQuestion_init_23 aq7 bq7 eq7 fq7 ?_
  obtain ⟨M9, aM9, eM9, h⟩ := pF_inv h
  refine ew_pFF 6 2 d_XQuestion_init_25 fl_XQuestion_18 rfl rfl aM9 eM9 (fun ad => ⟨rfl, rfl⟩) ?_
  obtain ⟨hz, hm⟩ := Prod.mk.inj (Option.some.inj h)
  exact ew_return d_XQuestion_init_28 rfl hz.symm hm.symm
theorem T_XQuestion_init {n : Nat} {l0 : Nat} {M Mf : PM} {res : qRs} (h : F_XQuestion_init n l0 M = some (res, Mf)) : CT Y_XQuestion_init 1 40 [.ref l0] M res Mf :=
  CT_of (by decide) (Nat.le_of_ble_eq_true rfl) (qHd_ne (by decide)) (fun g X ad0 => E_XQuestion_init (g := g) (X := X) (Z := (ad0, M, res, Mf, 1, 40)) (Nat.le_refl _) (Nat.le_refl _) h)
theorem d_XSearch_init_0 : decode Y_XSearch_init.2.1 0 = .ok (.aload_n 0, 1) := by decide +kernel
theorem d_XSearch_init_1 : decode Y_XSearch_init.2.1 1 = .ok (.invokespecial 3, 3) := by decide +kernel
theorem d_XSearch_init_4 : decode Y_XSearch_init.2.1 4 = .ok (.aload_n 0, 1) := by decide +kernel
theorem d_XSearch_init_5 : decode Y_XSearch_init.2.1 5 = .ok (.aload_n 1, 1) := by decide +kernel
theorem d_XSearch_init_6 : decode Y_XSearch_init.2.1 6 = .ok (.putfield 9, 3) := by decide +kernel
theorem d_XSearch_init_9 : decode Y_XSearch_init.2.1 9 = .ok (.aload_n 0, 1) := by decide +kernel
theorem d_XSearch_init_10 : decode Y_XSearch_init.2.1 10 = .ok (.aload_n 2, 1) := by decide +kernel
theorem d_XSearch_init_11 : decode Y_XSearch_init.2.1 11 = .ok (.putfield 15, 3) := by decide +kernel
theorem d_XSearch_init_14 : decode Y_XSearch_init.2.1 14 = .ok (.aload_n 0, 1) := by decide +kernel
theorem d_XSearch_init_15 : decode Y_XSearch_init.2.1 15 = .ok (.new 19, 3) := by decide +kernel
theorem d_XSearch_init_18 : decode Y_XSearch_init.2.1 18 = .ok (.dup, 1) := by decide +kernel
theorem d_XSearch_init_19 : decode Y_XSearch_init.2.1 19 = .ok (.aload_n 1, 1) := by decide +kernel
theorem d_XSearch_init_20 : decode Y_XSearch_init.2.1 20 = .ok (.invokespecial 21, 3) := by decide +kernel
theorem d_XSearch_init_23 : decode Y_XSearch_init.2.1 23 = .ok (.putfield 24, 3) := by decide +kernel
theorem d_XSearch_init_26 : decode Y_XSearch_init.2.1 26 = .ok (.aload_n 0, 1) := by decide +kernel
theorem d_XSearch_init_27 : decode Y_XSearch_init.2.1 27 = .ok (.bipush (6), 2) := by decide +kernel
theorem d_XSearch_init_29 : decode Y_XSearch_init.2.1 29 = .ok (.newarray .int, 2) := by decide +kernel
theorem d_XSearch_init_31 : decode Y_XSearch_init.2.1 31 = .ok (.putfield 28, 3) := by decide +kernel
theorem d_XSearch_init_34 : decode Y_XSearch_init.2.1 34 = .ok (.aload_n 0, 1) := by decide +kernel
theorem d_XSearch_init_35 : decode Y_XSearch_init.2.1 35 = .ok (.bipush (7), 2) := by decide +kernel
theorem d_XSearch_init_37 : decode Y_XSearch_init.2.1 37 = .ok (.newarray .int, 2) := by decide +kernel
theorem d_XSearch_init_39 : decode Y_XSearch_init.2.1 39 = .ok (.putfield 32, 3) := by decide +kernel
theorem d_XSearch_init_42 : decode Y_XSearch_init.2.1 42 = .ok (.aload_n 0, 1) := by decide +kernel
theorem d_XSearch_init_43 : decode Y_XSearch_init.2.1 43 = .ok (.bipush (7), 2) := by decide +kernel
theorem d_XSearch_init_45 : decode Y_XSearch_init.2.1 45 = .ok (.newarray .int, 2) := by decide +kernel
theorem d_XSearch_init_47 : decode Y_XSearch_init.2.1 47 = .ok (.putfield 35, 3) := by decide +kernel
theorem d_XSearch_init_50 : decode Y_XSearch_init.2.1 50 = .ok (.aload_n 0, 1) := by decide +kernel
theorem d_XSearch_init_51 : decode Y_XSearch_init.2.1 51 = .ok (.aload_n 1, 1) := by decide +kernel
theorem d_XSearch_init_52 : decode Y_XSearch_init.2.1 52 = .ok (.invokevirtual 38, 3) := by decide +kernel
theorem d_XSearch_init_55 : decode Y_XSearch_init.2.1 55 = .ok (.newarray .int, 2) := by decide +kernel
theorem d_XSearch_init_57 : decode Y_XSearch_init.2.1 57 = .ok (.putfield 44, 3) := by decide +kernel
theorem d_XSearch_init_60 : decode Y_XSearch_init.2.1 60 = .ok (.aload_n 0, 1) := by decide +kernel
theorem d_XSearch_init_61 : decode Y_XSearch_init.2.1 61 = .ok (.aload_n 1, 1) := by decide +kernel
theorem d_XSearch_init_62 : decode Y_XSearch_init.2.1 62 = .ok (.invokevirtual 38, 3) := by decide +kernel
theorem d_XSearch_init_65 : decode Y_XSearch_init.2.1 65 = .ok (.newarray .int, 2) := by decide +kernel
theorem d_XSearch_init_67 : decode Y_XSearch_init.2.1 67 = .ok (.putfield 47, 3) := by decide +kernel
theorem d_XSearch_init_70 : decode Y_XSearch_init.2.1 70 = .ok (.aload_n 0, 1) := by decide +kernel
theorem d_XSearch_init_71 : decode Y_XSearch_init.2.1 71 = .ok (.bipush (9), 2) := by decide +kernel
theorem d_XSearch_init_73 : decode Y_XSearch_init.2.1 73 = .ok (.newarray .int, 2) := by decide +kernel
theorem d_XSearch_init_75 : decode Y_XSearch_init.2.1 75 = .ok (.putfield 50, 3) := by decide +kernel
theorem d_XSearch_init_78 : decode Y_XSearch_init.2.1 78 = .ok (.aload_n 0, 1) := by decide +kernel
theorem d_XSearch_init_79 : decode Y_XSearch_init.2.1 79 = .ok (.bipush (7), 2) := by decide +kernel
theorem d_XSearch_init_81 : decode Y_XSearch_init.2.1 81 = .ok (.newarray .int, 2) := by decide +kernel
theorem d_XSearch_init_83 : decode Y_XSearch_init.2.1 83 = .ok (.putfield 53, 3) := by decide +kernel
theorem d_XSearch_init_86 : decode Y_XSearch_init.2.1 86 = .ok (.return_, 1) := by decide +kernel
def F_XSearch_init (n : Nat) (l0 : Nat) (l1 : Nat) (l2 : Nat) (M : PM) : qO :=
  pF 7 M l0 0 (.ref l1) (fun M1 =>
  pF 7 M1 l0 1 (.ref l2) (fun M2 =>
  mO 4 M2 (fun q3 M4 =>
  cV (F_XPlanes_init n q3 l1 M4) (fun M5 =>
  pF 7 M5 l0 2 (.ref q3) (fun M6 =>
  mA 0 M6 (6 : Int32) (fun q7 M8 =>
  pF 7 M8 l0 3 (.ref q7) (fun M9 =>
  mA 0 M9 (7 : Int32) (fun q10 M11 =>
  pF 7 M11 l0 4 (.ref q10) (fun M12 =>
  mA 0 M12 (7 : Int32) (fun q13 M14 =>
  pF 7 M14 l0 5 (.ref q13) (fun M15 =>
  kO 2 M15 l1 (
  cI (F_XNodes_room n l1 M15) (fun v17 M16 =>
  mA 0 M16 v17 (fun q18 M19 =>
  pF 7 M19 l0 6 (.ref q18) (fun M20 =>
  kO 2 M20 l1 (
  cI (F_XNodes_room n l1 M20) (fun v22 M21 =>
  mA 0 M21 v22 (fun q23 M24 =>
  pF 7 M24 l0 7 (.ref q23) (fun M25 =>
  mA 0 M25 (9 : Int32) (fun q26 M27 =>
  pF 7 M27 l0 8 (.ref q26) (fun M28 =>
  mA 0 M28 (7 : Int32) (fun q29 M30 =>
  pF 7 M30 l0 9 (.ref q29) (fun M31 =>
  some (.inl none, M31))))))))))))))))))))))))
set_option maxHeartbeats 4000000 in
set_option maxRecDepth 100000 in
theorem E_XSearch_init {g : qG} {X : qX} {Z : qZ} (hn : 2 ≤ zn Z) (hl : 61 ≤ zl Z) {n : Nat} {l0 : Nat} {l1 : Nat} {l2 : Nat} {M : PM} (h : F_XSearch_init n l0 l1 l2 M = some (zr Z, zf Z)) : EW Y_XSearch_init g X Z 0 [(0, .ref l0), (1, .ref l1), (2, .ref l2)] [] M := by
  unfold F_XSearch_init at h
  refine ew_aload_n 0 d_XSearch_init_0 rfl rfl ?_
  refine ew_objInit d_XSearch_init_1 ob_XSearch_3 (Nat.le_trans (Nat.le_of_ble_eq_true rfl) hn) (Nat.le_trans (Nat.le_of_ble_eq_true rfl) hl) ?_
  refine ew_aload_n 0 d_XSearch_init_4 rfl rfl ?_
  refine ew_aload_n 1 d_XSearch_init_5 rfl rfl ?_
  obtain ⟨M1, aM1, eM1, h⟩ := pF_inv h
  refine ew_pFF 7 0 d_XSearch_init_6 fl_XSearch_9 rfl rfl aM1 eM1 (fun ad => ⟨rfl, rfl⟩) ?_
  refine ew_aload_n 0 d_XSearch_init_9 rfl rfl ?_
  refine ew_aload_n 2 d_XSearch_init_10 rfl rfl ?_
  obtain ⟨M2, aM2, eM2, h⟩ := pF_inv h
  refine ew_pFF 7 1 d_XSearch_init_11 fl_XSearch_15 rfl rfl aM2 eM2 (fun ad => ⟨rfl, rfl⟩) ?_
  refine ew_aload_n 0 d_XSearch_init_14 rfl rfl ?_
  obtain ⟨q3, M4, eq3, fq3, h⟩ := mO_inv h
  refine ew_mO 4 d_XSearch_init_15 nw_XSearch_19 eq3 fq3 ?_
  refine ew_dup d_XSearch_init_18 rfl ?_
  refine ew_aload_n 1 d_XSearch_init_19 rfl rfl ?_
  obtain ⟨M5, hM5, h⟩ := cV_inv h
  refine ew_callI [.ref l1] d_XSearch_init_20 ci_XSearch_21 (T_XPlanes_init hM5) (Nat.le_trans (Nat.le_of_ble_eq_true rfl) hn) (Nat.le_trans (Nat.le_of_ble_eq_true rfl) hl) (Nat.le_of_ble_eq_true rfl) rfl ?_
  obtain ⟨M6, aM6, eM6, h⟩ := pF_inv h
  refine ew_pFF 7 2 d_XSearch_init_23 fl_XSearch_24 rfl rfl aM6 eM6 (fun ad => ⟨rfl, rfl⟩) ?_
  refine ew_aload_n 0 d_XSearch_init_26 rfl rfl ?_
  refine ew_bipush (6) d_XSearch_init_27 (by decide +kernel) ?_
  obtain ⟨q7, M8, aq7, bq7, eq7, fq7, h⟩ := mA_inv h
  refine ew_mA0 d_XSearch_init_29 aq7 bq7 eq7 fq7 ?_
  obtain ⟨M9, aM9, eM9, h⟩ := pF_inv h
  refine ew_pFF 7 3 d_XSearch_init_31 fl_XSearch_28 rfl rfl aM9 eM9 (fun ad => ⟨rfl, rfl⟩) ?_
  refine ew_aload_n 0 d_XSearch_init_34 rfl rfl ?_
  refine ew_bipush (7) d_XSearch_init_35 (by decide +kernel) ?_
  obtain ⟨q10, M11, aq10, bq10, eq10, fq10, h⟩ := mA_inv h
  refine ew_mA0 d_XSearch_init_37 aq10 bq10 eq10 fq10 ?_
  obtain ⟨M12, aM12, eM12, h⟩ := pF_inv h
  refine ew_pFF 7 4 d_XSearch_init_39 fl_XSearch_32 rfl rfl aM12 eM12 (fun ad => ⟨rfl, rfl⟩) ?_
  refine ew_aload_n 0 d_XSearch_init_42 rfl rfl ?_
  refine ew_bipush (7) d_XSearch_init_43 (by decide +kernel) ?_
  obtain ⟨q13, M14, aq13, bq13, eq13, fq13, h⟩ := mA_inv h
  refine ew_mA0 d_XSearch_init_45 aq13 bq13 eq13 fq13 ?_
  obtain ⟨M15, aM15, eM15, h⟩ := pF_inv h
  refine ew_pFF 7 5 d_XSearch_init_47 fl_XSearch_35 rfl rfl aM15 eM15 (fun ad => ⟨rfl, rfl⟩) ?_
  refine ew_aload_n 0 d_XSearch_init_50 rfl rfl ?_
  refine ew_aload_n 1 d_XSearch_init_51 rfl rfl ?_
  obtain ⟨kM16, h⟩ := kO_inv h
  obtain ⟨v17, M16, hM16, h⟩ := cI_inv h
  refine ew_callV 2 [] d_XSearch_init_52 cv_XSearch_38 (T_XNodes_room hM16) kM16 (Nat.le_trans (Nat.le_of_ble_eq_true rfl) hn) (Nat.le_trans (Nat.le_of_ble_eq_true rfl) hl) (Nat.le_of_ble_eq_true rfl) rfl rfl ?_
  obtain ⟨q18, M19, aq18, bq18, eq18, fq18, h⟩ := mA_inv h
  refine ew_mA0 d_XSearch_init_55 aq18 bq18 eq18 fq18 ?_
  obtain ⟨M20, aM20, eM20, h⟩ := pF_inv h
  refine ew_pFF 7 6 d_XSearch_init_57 fl_XSearch_44 rfl rfl aM20 eM20 (fun ad => ⟨rfl, rfl⟩) ?_
  refine ew_aload_n 0 d_XSearch_init_60 rfl rfl ?_
  refine ew_aload_n 1 d_XSearch_init_61 rfl rfl ?_
  obtain ⟨kM21, h⟩ := kO_inv h
  obtain ⟨v22, M21, hM21, h⟩ := cI_inv h
  refine ew_callV 2 [] d_XSearch_init_62 cv_XSearch_38 (T_XNodes_room hM21) kM21 (Nat.le_trans (Nat.le_of_ble_eq_true rfl) hn) (Nat.le_trans (Nat.le_of_ble_eq_true rfl) hl) (Nat.le_of_ble_eq_true rfl) rfl rfl ?_
  obtain ⟨q23, M24, aq23, bq23, eq23, fq23, h⟩ := mA_inv h
  refine ew_mA0 d_XSearch_init_65 aq23 bq23 eq23 fq23 ?_
  obtain ⟨M25, aM25, eM25, h⟩ := pF_inv h
  refine ew_pFF 7 7 d_XSearch_init_67 fl_XSearch_47 rfl rfl aM25 eM25 (fun ad => ⟨rfl, rfl⟩) ?_
  refine ew_aload_n 0 d_XSearch_init_70 rfl rfl ?_
  refine ew_bipush (9) d_XSearch_init_71 (by decide +kernel) ?_
  obtain ⟨q26, M27, aq26, bq26, eq26, fq26, h⟩ := mA_inv h
  refine ew_mA0 d_XSearch_init_73 aq26 bq26 eq26 fq26 ?_
  obtain ⟨M28, aM28, eM28, h⟩ := pF_inv h
  refine ew_pFF 7 8 d_XSearch_init_75 fl_XSearch_50 rfl rfl aM28 eM28 (fun ad => ⟨rfl, rfl⟩) ?_
  refine ew_aload_n 0 d_XSearch_init_78 rfl rfl ?_
  refine ew_bipush (7) d_XSearch_init_79 (by decide +kernel) ?_
  obtain ⟨q29, M30, aq29, bq29, eq29, fq29, h⟩ := mA_inv h
  refine ew_mA0 d_XSearch_init_81 aq29 bq29 eq29 fq29 ?_
  obtain ⟨M31, aM31, eM31, h⟩ := pF_inv h
  refine ew_pFF 7 9 d_XSearch_init_83 fl_XSearch_53 rfl rfl aM31 eM31 (fun ad => ⟨rfl, rfl⟩) ?_
  obtain ⟨hz, hm⟩ := Prod.mk.inj (Option.some.inj h)
  exact ew_return d_XSearch_init_86 rfl hz.symm hm.symm
theorem T_XSearch_init {n : Nat} {l0 : Nat} {l1 : Nat} {l2 : Nat} {M Mf : PM} {res : qRs} (h : F_XSearch_init n l0 l1 l2 M = some (res, Mf)) : CT Y_XSearch_init 2 61 [.ref l0, .ref l1, .ref l2] M res Mf :=
  CT_of (by decide) (Nat.le_of_ble_eq_true rfl) (qHd_ne (by decide)) (fun g X ad0 => E_XSearch_init (g := g) (X := X) (Z := (ad0, M, res, Mf, 2, 61)) (Nat.le_refl _) (Nat.le_refl _) h)
theorem d_XProver_init_0 : decode Y_XProver_init.2.1 0 = .ok (.aload_n 0, 1) := by decide +kernel
theorem d_XProver_init_1 : decode Y_XProver_init.2.1 1 = .ok (.invokespecial 3, 3) := by decide +kernel
theorem d_XProver_init_4 : decode Y_XProver_init.2.1 4 = .ok (.aload_n 0, 1) := by decide +kernel
theorem d_XProver_init_5 : decode Y_XProver_init.2.1 5 = .ok (.new 9, 3) := by decide +kernel
theorem d_XProver_init_8 : decode Y_XProver_init.2.1 8 = .ok (.dup, 1) := by decide +kernel
theorem d_XProver_init_9 : decode Y_XProver_init.2.1 9 = .ok (.iload_n 1, 1) := by decide +kernel
theorem d_XProver_init_10 : decode Y_XProver_init.2.1 10 = .ok (.invokespecial 11, 3) := by decide +kernel
theorem d_XProver_init_13 : decode Y_XProver_init.2.1 13 = .ok (.putfield 14, 3) := by decide +kernel
theorem d_XProver_init_16 : decode Y_XProver_init.2.1 16 = .ok (.aload_n 0, 1) := by decide +kernel
theorem d_XProver_init_17 : decode Y_XProver_init.2.1 17 = .ok (.new 20, 3) := by decide +kernel
theorem d_XProver_init_20 : decode Y_XProver_init.2.1 20 = .ok (.dup, 1) := by decide +kernel
theorem d_XProver_init_21 : decode Y_XProver_init.2.1 21 = .ok (.invokespecial 22, 3) := by decide +kernel
theorem d_XProver_init_24 : decode Y_XProver_init.2.1 24 = .ok (.putfield 23, 3) := by decide +kernel
theorem d_XProver_init_27 : decode Y_XProver_init.2.1 27 = .ok (.aload_n 0, 1) := by decide +kernel
theorem d_XProver_init_28 : decode Y_XProver_init.2.1 28 = .ok (.new 27, 3) := by decide +kernel
theorem d_XProver_init_31 : decode Y_XProver_init.2.1 31 = .ok (.dup, 1) := by decide +kernel
theorem d_XProver_init_32 : decode Y_XProver_init.2.1 32 = .ok (.aload_n 0, 1) := by decide +kernel
theorem d_XProver_init_33 : decode Y_XProver_init.2.1 33 = .ok (.getfield 14, 3) := by decide +kernel
theorem d_XProver_init_36 : decode Y_XProver_init.2.1 36 = .ok (.aload_n 0, 1) := by decide +kernel
theorem d_XProver_init_37 : decode Y_XProver_init.2.1 37 = .ok (.getfield 23, 3) := by decide +kernel
theorem d_XProver_init_40 : decode Y_XProver_init.2.1 40 = .ok (.invokespecial 29, 3) := by decide +kernel
theorem d_XProver_init_43 : decode Y_XProver_init.2.1 43 = .ok (.putfield 32, 3) := by decide +kernel
theorem d_XProver_init_46 : decode Y_XProver_init.2.1 46 = .ok (.aload_n 0, 1) := by decide +kernel
theorem d_XProver_init_47 : decode Y_XProver_init.2.1 47 = .ok (.iload_n 1, 1) := by decide +kernel
theorem d_XProver_init_48 : decode Y_XProver_init.2.1 48 = .ok (.newarray .boolean, 2) := by decide +kernel
theorem d_XProver_init_50 : decode Y_XProver_init.2.1 50 = .ok (.putfield 36, 3) := by decide +kernel
theorem d_XProver_init_53 : decode Y_XProver_init.2.1 53 = .ok (.aload_n 0, 1) := by decide +kernel
theorem d_XProver_init_54 : decode Y_XProver_init.2.1 54 = .ok (.sipush (300), 3) := by decide +kernel
theorem d_XProver_init_57 : decode Y_XProver_init.2.1 57 = .ok (.newarray .int, 2) := by decide +kernel
theorem d_XProver_init_59 : decode Y_XProver_init.2.1 59 = .ok (.putfield 40, 3) := by decide +kernel
theorem d_XProver_init_62 : decode Y_XProver_init.2.1 62 = .ok (.aload_n 0, 1) := by decide +kernel
theorem d_XProver_init_63 : decode Y_XProver_init.2.1 63 = .ok (.bipush (16), 2) := by decide +kernel
theorem d_XProver_init_65 : decode Y_XProver_init.2.1 65 = .ok (.newarray .int, 2) := by decide +kernel
theorem d_XProver_init_67 : decode Y_XProver_init.2.1 67 = .ok (.putfield 44, 3) := by decide +kernel
theorem d_XProver_init_70 : decode Y_XProver_init.2.1 70 = .ok (.aload_n 0, 1) := by decide +kernel
theorem d_XProver_init_71 : decode Y_XProver_init.2.1 71 = .ok (.bipush (16), 2) := by decide +kernel
theorem d_XProver_init_73 : decode Y_XProver_init.2.1 73 = .ok (.newarray .int, 2) := by decide +kernel
theorem d_XProver_init_75 : decode Y_XProver_init.2.1 75 = .ok (.putfield 47, 3) := by decide +kernel
theorem d_XProver_init_78 : decode Y_XProver_init.2.1 78 = .ok (.return_, 1) := by decide +kernel
def F_XProver_init (n : Nat) (l0 : Nat) (l1 : Int32) (M : PM) : qO :=
  mO 2 M (fun q1 M2 =>
  cV (F_XNodes_init n q1 l1 M2) (fun M3 =>
  pF 5 M3 l0 0 (.ref q1) (fun M4 =>
  mO 6 M4 (fun q5 M6 =>
  cV (F_XQuestion_init n q5 M6) (fun M7 =>
  pF 5 M7 l0 1 (.ref q5) (fun M8 =>
  mO 7 M8 (fun q9 M10 =>
  gR 5 M10 l0 0 (fun v11 =>
  gR 5 M10 l0 1 (fun v12 =>
  cV (F_XSearch_init n q9 v11 v12 M10) (fun M13 =>
  pF 5 M13 l0 2 (.ref q9) (fun M14 =>
  mA 1 M14 l1 (fun q15 M16 =>
  pF 5 M16 l0 3 (.ref q15) (fun M17 =>
  mA 0 M17 (300 : Int32) (fun q18 M19 =>
  pF 5 M19 l0 4 (.ref q18) (fun M20 =>
  mA 0 M20 (16 : Int32) (fun q21 M22 =>
  pF 5 M22 l0 5 (.ref q21) (fun M23 =>
  mA 0 M23 (16 : Int32) (fun q24 M25 =>
  pF 5 M25 l0 6 (.ref q24) (fun M26 =>
  some (.inl none, M26))))))))))))))))))))
set_option maxHeartbeats 4000000 in
set_option maxRecDepth 100000 in
theorem E_XProver_init {g : qG} {X : qX} {Z : qZ} (hn : 3 ≤ zn Z) (hl : 83 ≤ zl Z) {n : Nat} {l0 : Nat} {l1 : Int32} {M : PM} (h : F_XProver_init n l0 l1 M = some (zr Z, zf Z)) : EW Y_XProver_init g X Z 0 [(0, .ref l0), (1, .int l1)] [] M := by
  unfold F_XProver_init at h
  refine ew_aload_n 0 d_XProver_init_0 rfl rfl ?_
  refine ew_objInit d_XProver_init_1 ob_XProver_3 (Nat.le_trans (Nat.le_of_ble_eq_true rfl) hn) (Nat.le_trans (Nat.le_of_ble_eq_true rfl) hl) ?_
  refine ew_aload_n 0 d_XProver_init_4 rfl rfl ?_
  obtain ⟨q1, M2, eq1, fq1, h⟩ := mO_inv h
  refine ew_mO 2 d_XProver_init_5 nw_XProver_9 eq1 fq1 ?_
  refine ew_dup d_XProver_init_8 rfl ?_
  refine ew_iload_n 1 d_XProver_init_9 rfl rfl ?_
  obtain ⟨M3, hM3, h⟩ := cV_inv h
  refine ew_callI [.int l1] d_XProver_init_10 ci_XProver_11 (T_XNodes_init hM3) (Nat.le_trans (Nat.le_of_ble_eq_true rfl) hn) (Nat.le_trans (Nat.le_of_ble_eq_true rfl) hl) (Nat.le_of_ble_eq_true rfl) rfl ?_
  obtain ⟨M4, aM4, eM4, h⟩ := pF_inv h
  refine ew_pFF 5 0 d_XProver_init_13 fl_XProver_14 rfl rfl aM4 eM4 (fun ad => ⟨rfl, rfl⟩) ?_
  refine ew_aload_n 0 d_XProver_init_16 rfl rfl ?_
  obtain ⟨q5, M6, eq5, fq5, h⟩ := mO_inv h
  refine ew_mO 6 d_XProver_init_17 nw_XProver_20 eq5 fq5 ?_
  refine ew_dup d_XProver_init_20 rfl ?_
  obtain ⟨M7, hM7, h⟩ := cV_inv h
  refine ew_callI [] d_XProver_init_21 ci_XProver_22 (T_XQuestion_init hM7) (Nat.le_trans (Nat.le_of_ble_eq_true rfl) hn) (Nat.le_trans (Nat.le_of_ble_eq_true rfl) hl) (Nat.le_of_ble_eq_true rfl) rfl ?_
  obtain ⟨M8, aM8, eM8, h⟩ := pF_inv h
  refine ew_pFF 5 1 d_XProver_init_24 fl_XProver_23 rfl rfl aM8 eM8 (fun ad => ⟨rfl, rfl⟩) ?_
  refine ew_aload_n 0 d_XProver_init_27 rfl rfl ?_
  obtain ⟨q9, M10, eq9, fq9, h⟩ := mO_inv h
  refine ew_mO 7 d_XProver_init_28 nw_XProver_27 eq9 fq9 ?_
  refine ew_dup d_XProver_init_31 rfl ?_
  refine ew_aload_n 0 d_XProver_init_32 rfl rfl ?_
  obtain ⟨v11, av11, bv11, h⟩ := gR_inv h
  refine ew_gR 5 0 d_XProver_init_33 fl_XProver_14 av11 bv11 ?_
  refine ew_aload_n 0 d_XProver_init_36 rfl rfl ?_
  obtain ⟨v12, av12, bv12, h⟩ := gR_inv h
  refine ew_gR 5 1 d_XProver_init_37 fl_XProver_23 av12 bv12 ?_
  obtain ⟨M13, hM13, h⟩ := cV_inv h
  refine ew_callI [.ref v11, .ref v12] d_XProver_init_40 ci_XProver_29 (T_XSearch_init hM13) (Nat.le_trans (Nat.le_of_ble_eq_true rfl) hn) (Nat.le_trans (Nat.le_of_ble_eq_true rfl) hl) (Nat.le_of_ble_eq_true rfl) rfl ?_
  obtain ⟨M14, aM14, eM14, h⟩ := pF_inv h
  refine ew_pFF 5 2 d_XProver_init_43 fl_XProver_32 rfl rfl aM14 eM14 (fun ad => ⟨rfl, rfl⟩) ?_
  refine ew_aload_n 0 d_XProver_init_46 rfl rfl ?_
  refine ew_iload_n 1 d_XProver_init_47 rfl rfl ?_
  obtain ⟨q15, M16, aq15, bq15, eq15, fq15, h⟩ := mA_inv h
  refine ew_mA1 d_XProver_init_48 aq15 bq15 eq15 fq15 ?_
  obtain ⟨M17, aM17, eM17, h⟩ := pF_inv h
  refine ew_pFF 5 3 d_XProver_init_50 fl_XProver_36 rfl rfl aM17 eM17 (fun ad => ⟨rfl, rfl⟩) ?_
  refine ew_aload_n 0 d_XProver_init_53 rfl rfl ?_
  refine ew_sipush (300) d_XProver_init_54 (by decide +kernel) ?_
  obtain ⟨q18, M19, aq18, bq18, eq18, fq18, h⟩ := mA_inv h
  refine ew_mA0 d_XProver_init_57 aq18 bq18 eq18 fq18 ?_
  obtain ⟨M20, aM20, eM20, h⟩ := pF_inv h
  refine ew_pFF 5 4 d_XProver_init_59 fl_XProver_40 rfl rfl aM20 eM20 (fun ad => ⟨rfl, rfl⟩) ?_
  refine ew_aload_n 0 d_XProver_init_62 rfl rfl ?_
  refine ew_bipush (16) d_XProver_init_63 (by decide +kernel) ?_
  obtain ⟨q21, M22, aq21, bq21, eq21, fq21, h⟩ := mA_inv h
  refine ew_mA0 d_XProver_init_65 aq21 bq21 eq21 fq21 ?_
  obtain ⟨M23, aM23, eM23, h⟩ := pF_inv h
  refine ew_pFF 5 5 d_XProver_init_67 fl_XProver_44 rfl rfl aM23 eM23 (fun ad => ⟨rfl, rfl⟩) ?_
  refine ew_aload_n 0 d_XProver_init_70 rfl rfl ?_
  refine ew_bipush (16) d_XProver_init_71 (by decide +kernel) ?_
  obtain ⟨q24, M25, aq24, bq24, eq24, fq24, h⟩ := mA_inv h
  refine ew_mA0 d_XProver_init_73 aq24 bq24 eq24 fq24 ?_
  obtain ⟨M26, aM26, eM26, h⟩ := pF_inv h
  refine ew_pFF 5 6 d_XProver_init_75 fl_XProver_47 rfl rfl aM26 eM26 (fun ad => ⟨rfl, rfl⟩) ?_
  obtain ⟨hz, hm⟩ := Prod.mk.inj (Option.some.inj h)
  exact ew_return d_XProver_init_78 rfl hz.symm hm.symm
theorem T_XProver_init {n : Nat} {l0 : Nat} {l1 : Int32} {M Mf : PM} {res : qRs} (h : F_XProver_init n l0 l1 M = some (res, Mf)) : CT Y_XProver_init 3 83 [.ref l0, .int l1] M res Mf :=
  CT_of (by decide) (Nat.le_of_ble_eq_true rfl) (qHd_ne (by decide)) (fun g X ad0 => E_XProver_init (g := g) (X := X) (Z := (ad0, M, res, Mf, 3, 83)) (Nat.le_refl _) (Nat.le_refl _) h)
theorem d_XProver_room_0 : decode Y_XProver_room.2.1 0 = .ok (.aload_n 0, 1) := by decide +kernel
theorem d_XProver_room_1 : decode Y_XProver_room.2.1 1 = .ok (.getfield 14, 3) := by decide +kernel
theorem d_XProver_room_4 : decode Y_XProver_room.2.1 4 = .ok (.invokevirtual 50, 3) := by decide +kernel
theorem d_XProver_room_7 : decode Y_XProver_room.2.1 7 = .ok (.ireturn, 1) := by decide +kernel
def F_XProver_room (n : Nat) (l0 : Nat) (M : PM) : qO :=
  gR 5 M l0 0 (fun v1 =>
  kO 2 M v1 (
  cI (F_XNodes_room n v1 M) (fun v3 M2 =>
  some (.inl (some (.int v3)), M2))))
set_option maxHeartbeats 4000000 in
set_option maxRecDepth 100000 in
theorem E_XProver_room {g : qG} {X : qX} {Z : qZ} (hn : 1 ≤ zn Z) (hl : 20 ≤ zl Z) {n : Nat} {l0 : Nat} {M : PM} (h : F_XProver_room n l0 M = some (zr Z, zf Z)) : EW Y_XProver_room g X Z 0 [(0, .ref l0)] [] M := by
  unfold F_XProver_room at h
  refine ew_aload_n 0 d_XProver_room_0 rfl rfl ?_
  obtain ⟨v1, av1, bv1, h⟩ := gR_inv h
  refine ew_gR 5 0 d_XProver_room_1 fl_XProver_14 av1 bv1 ?_
  obtain ⟨kM2, h⟩ := kO_inv h
  obtain ⟨v3, M2, hM2, h⟩ := cI_inv h
  refine ew_callV 2 [] d_XProver_room_4 cv_XProver_50 (T_XNodes_room hM2) kM2 (Nat.le_trans (Nat.le_of_ble_eq_true rfl) hn) (Nat.le_trans (Nat.le_of_ble_eq_true rfl) hl) (Nat.le_of_ble_eq_true rfl) rfl rfl ?_
  obtain ⟨hz, hm⟩ := Prod.mk.inj (Option.some.inj h)
  exact ew_ireturn d_XProver_room_7 rfl hz.symm hm.symm
theorem T_XProver_room {n : Nat} {l0 : Nat} {M Mf : PM} {res : qRs} (h : F_XProver_room n l0 M = some (res, Mf)) : CT Y_XProver_room 1 20 [.ref l0] M res Mf :=
  CT_of (by decide) (Nat.le_of_ble_eq_true rfl) (qHd_ne (by decide)) (fun g X ad0 => E_XProver_room (g := g) (X := X) (Z := (ad0, M, res, Mf, 1, 20)) (Nat.le_refl _) (Nat.le_refl _) h)
theorem d_XQuestion_begin_0 : decode Y_XQuestion_begin.2.1 0 = .ok (.aload_n 0, 1) := by decide +kernel
theorem d_XQuestion_begin_1 : decode Y_XQuestion_begin.2.1 1 = .ok (.iconst 0, 1) := by decide +kernel
theorem d_XQuestion_begin_2 : decode Y_XQuestion_begin.2.1 2 = .ok (.putfield 21, 3) := by decide +kernel
theorem d_XQuestion_begin_5 : decode Y_XQuestion_begin.2.1 5 = .ok (.aload_n 0, 1) := by decide +kernel
theorem d_XQuestion_begin_6 : decode Y_XQuestion_begin.2.1 6 = .ok (.iconst 0, 1) := by decide +kernel
theorem d_XQuestion_begin_7 : decode Y_XQuestion_begin.2.1 7 = .ok (.putfield 25, 3) := by decide +kernel
theorem d_XQuestion_begin_10 : decode Y_XQuestion_begin.2.1 10 = .ok (.return_, 1) := by decide +kernel
def F_XQuestion_begin (n : Nat) (l0 : Nat) (M : PM) : qO :=
  pF 6 M l0 3 (.int (0 : Int32)) (fun M1 =>
  pF 6 M1 l0 4 (.int (0 : Int32)) (fun M2 =>
  some (.inl none, M2)))
set_option maxHeartbeats 4000000 in
set_option maxRecDepth 100000 in
theorem E_XQuestion_begin {g : qG} {X : qX} {Z : qZ} (hn : 0 ≤ zn Z) (hl : 0 ≤ zl Z) {n : Nat} {l0 : Nat} {M : PM} (h : F_XQuestion_begin n l0 M = some (zr Z, zf Z)) : EW Y_XQuestion_begin g X Z 0 [(0, .ref l0)] [] M := by
  unfold F_XQuestion_begin at h
  refine ew_aload_n 0 d_XQuestion_begin_0 rfl rfl ?_
  refine ew_iconst (0) d_XQuestion_begin_1 (by decide) ?_
  obtain ⟨M1, aM1, eM1, h⟩ := pF_inv h
  refine ew_pF 6 3 d_XQuestion_begin_2 fl_XQuestion_21 aM1 eM1 (fun ad => ⟨rfl, rfl⟩) ?_
  refine ew_aload_n 0 d_XQuestion_begin_5 rfl rfl ?_
  refine ew_iconst (0) d_XQuestion_begin_6 (by decide) ?_
  obtain ⟨M2, aM2, eM2, h⟩ := pF_inv h
  refine ew_pF 6 4 d_XQuestion_begin_7 fl_XQuestion_25 aM2 eM2 (fun ad => ⟨rfl, rfl⟩) ?_
  obtain ⟨hz, hm⟩ := Prod.mk.inj (Option.some.inj h)
  exact ew_return d_XQuestion_begin_10 rfl hz.symm hm.symm
theorem T_XQuestion_begin {n : Nat} {l0 : Nat} {M Mf : PM} {res : qRs} (h : F_XQuestion_begin n l0 M = some (res, Mf)) : CT Y_XQuestion_begin 0 0 [.ref l0] M res Mf :=
  CT_of (by decide) (Nat.le_of_ble_eq_true rfl) (qHd_ne (by decide)) (fun g X ad0 => E_XQuestion_begin (g := g) (X := X) (Z := (ad0, M, res, Mf, 0, 0)) (Nat.le_refl _) (Nat.le_refl _) h)
theorem d_XProver_putIn_0 : decode Y_XProver_putIn.2.1 0 = .ok (.aload_n 0, 1) := by decide +kernel
theorem d_XProver_putIn_1 : decode Y_XProver_putIn.2.1 1 = .ok (.getfield 40, 3) := by decide +kernel
theorem d_XProver_putIn_4 : decode Y_XProver_putIn.2.1 4 = .ok (.iconst 0, 1) := by decide +kernel
theorem d_XProver_putIn_5 : decode Y_XProver_putIn.2.1 5 = .ok (.iconst 0, 1) := by decide +kernel
theorem d_XProver_putIn_6 : decode Y_XProver_putIn.2.1 6 = .ok (.iastore, 1) := by decide +kernel
theorem d_XProver_putIn_7 : decode Y_XProver_putIn.2.1 7 = .ok (.aload_n 0, 1) := by decide +kernel
theorem d_XProver_putIn_8 : decode Y_XProver_putIn.2.1 8 = .ok (.getfield 40, 3) := by decide +kernel
theorem d_XProver_putIn_11 : decode Y_XProver_putIn.2.1 11 = .ok (.iconst 1, 1) := by decide +kernel
theorem d_XProver_putIn_12 : decode Y_XProver_putIn.2.1 12 = .ok (.iconst 1, 1) := by decide +kernel
theorem d_XProver_putIn_13 : decode Y_XProver_putIn.2.1 13 = .ok (.iastore, 1) := by decide +kernel
theorem d_XProver_putIn_14 : decode Y_XProver_putIn.2.1 14 = .ok (.aload_n 0, 1) := by decide +kernel
theorem d_XProver_putIn_15 : decode Y_XProver_putIn.2.1 15 = .ok (.getfield 40, 3) := by decide +kernel
theorem d_XProver_putIn_18 : decode Y_XProver_putIn.2.1 18 = .ok (.iconst 2, 1) := by decide +kernel
theorem d_XProver_putIn_19 : decode Y_XProver_putIn.2.1 19 = .ok (.iload_n 3, 1) := by decide +kernel
theorem d_XProver_putIn_20 : decode Y_XProver_putIn.2.1 20 = .ok (.iastore, 1) := by decide +kernel
theorem d_XProver_putIn_21 : decode Y_XProver_putIn.2.1 21 = .ok (.iconst 0, 1) := by decide +kernel
theorem d_XProver_putIn_22 : decode Y_XProver_putIn.2.1 22 = .ok (.istore 4, 2) := by decide +kernel
theorem d_XProver_putIn_24 : decode Y_XProver_putIn.2.1 24 = .ok (.iload 4, 2) := by decide +kernel
theorem d_XProver_putIn_26 : decode Y_XProver_putIn.2.1 26 = .ok (.aload_n 1, 1) := by decide +kernel
theorem d_XProver_putIn_27 : decode Y_XProver_putIn.2.1 27 = .ok (.getfield 54, 3) := by decide +kernel
theorem d_XProver_putIn_30 : decode Y_XProver_putIn.2.1 30 = .ok (.if_icmp .ge (25), 3) := by decide +kernel
theorem d_XProver_putIn_33 : decode Y_XProver_putIn.2.1 33 = .ok (.aload_n 0, 1) := by decide +kernel
theorem d_XProver_putIn_34 : decode Y_XProver_putIn.2.1 34 = .ok (.getfield 40, 3) := by decide +kernel
theorem d_XProver_putIn_37 : decode Y_XProver_putIn.2.1 37 = .ok (.aload_n 1, 1) := by decide +kernel
theorem d_XProver_putIn_38 : decode Y_XProver_putIn.2.1 38 = .ok (.getfield 120, 3) := by decide +kernel
theorem d_XProver_putIn_41 : decode Y_XProver_putIn.2.1 41 = .ok (.iload 4, 2) := by decide +kernel
theorem d_XProver_putIn_43 : decode Y_XProver_putIn.2.1 43 = .ok (.iaload, 1) := by decide +kernel
theorem d_XProver_putIn_44 : decode Y_XProver_putIn.2.1 44 = .ok (.aload_n 2, 1) := by decide +kernel
theorem d_XProver_putIn_45 : decode Y_XProver_putIn.2.1 45 = .ok (.iload 4, 2) := by decide +kernel
theorem d_XProver_putIn_47 : decode Y_XProver_putIn.2.1 47 = .ok (.iaload, 1) := by decide +kernel
theorem d_XProver_putIn_48 : decode Y_XProver_putIn.2.1 48 = .ok (.iastore, 1) := by decide +kernel
theorem d_XProver_putIn_49 : decode Y_XProver_putIn.2.1 49 = .ok (.iinc 4 (1), 3) := by decide +kernel
theorem d_XProver_putIn_52 : decode Y_XProver_putIn.2.1 52 = .ok (.goto (-28), 3) := by decide +kernel
theorem d_XProver_putIn_55 : decode Y_XProver_putIn.2.1 55 = .ok (.return_, 1) := by decide +kernel
def F_XProver_putIn_24 (n : Nat) : Nat → Nat → Nat → Nat → Int32 → PM → qO
  | 0, _, _, _, _, _ => none
  | f + 1, l0, l1, l2, l4, M =>
    gI 1 M l1 5 (fun v1 =>
    if v1 ≤ l4 then
      some (.inl none, M)
    else
      gR 5 M l0 4 (fun v3 =>
      gR 1 M l1 1 (fun v4 =>
      lI M v4 l4 (fun v5 =>
      lI M l2 l4 (fun v6 =>
      wI M v3 v5 v6 (fun M7 =>
      bI (l4 + (1 : Int32)) (fun v8 =>
      (F_XProver_putIn_24 n f) l0 l1 l2 v8 M7)))))))
set_option maxHeartbeats 4000000 in
set_option maxRecDepth 100000 in
theorem E_XProver_putIn_24 {g : qG} {X : qX} {Z : qZ} (hn : 0 ≤ zn Z) (hl : 0 ≤ zl Z) {n : Nat} : ∀ (f : Nat) (l0 : Nat) (l1 : Nat) (l2 : Nat) (l4 : Int32) (M : PM), F_XProver_putIn_24 n f l0 l1 l2 l4 M = some (zr Z, zf Z) → EW Y_XProver_putIn g X Z 24 [(0, .ref l0), (1, .ref l1), (2, .ref l2), (4, .int l4)] [] M := by
  intro f
  induction f with
  | zero => intro l0 l1 l2 l4 M h; rw [F_XProver_putIn_24] at h; cases h
  | succ f ih =>
    intro l0 l1 l2 l4 M h
    rw [F_XProver_putIn_24] at h
    refine ew_iload d_XProver_putIn_24 rfl ?_
    refine ew_aload_n 1 d_XProver_putIn_26 rfl rfl ?_
    obtain ⟨v1, av1, bv1, h⟩ := gI_inv h
    refine ew_gI 1 5 d_XProver_putIn_27 fl_XProver_54 av1 bv1 ?_
    refine ew_icmp_ge 55 d_XProver_putIn_30 (by decide) (fun c2 => ?_) (fun c2 => ?_)
    · rw [if_pos c2] at h
      obtain ⟨hz, hm⟩ := Prod.mk.inj (Option.some.inj h)
      exact ew_return d_XProver_putIn_55 rfl hz.symm hm.symm
    · rw [if_neg c2] at h
      refine ew_aload_n 0 d_XProver_putIn_33 rfl rfl ?_
      obtain ⟨v3, av3, bv3, h⟩ := gR_inv h
      refine ew_gR 5 4 d_XProver_putIn_34 fl_XProver_40 av3 bv3 ?_
      refine ew_aload_n 1 d_XProver_putIn_37 rfl rfl ?_
      obtain ⟨v4, av4, bv4, h⟩ := gR_inv h
      refine ew_gR 1 1 d_XProver_putIn_38 fl_XProver_120 av4 bv4 ?_
      refine ew_iload d_XProver_putIn_41 rfl ?_
      obtain ⟨v5, av5, bv5, cv5, ev5, h⟩ := lI_inv h
      refine ew_lI d_XProver_putIn_43 av5 bv5 cv5 ev5 ?_
      refine ew_aload_n 2 d_XProver_putIn_44 rfl rfl ?_
      refine ew_iload d_XProver_putIn_45 rfl ?_
      obtain ⟨v6, av6, bv6, cv6, ev6, h⟩ := lI_inv h
      refine ew_lI d_XProver_putIn_47 av6 bv6 cv6 ev6 ?_
      obtain ⟨M7, aM7, bM7, cM7, eM7, h⟩ := wI_inv h
      refine ew_wI d_XProver_putIn_48 aM7 bM7 cM7 eM7 ?_
      obtain ⟨v8, ev8, h⟩ := bI_inv h
      refine ew_iinc (L' := [(0, .ref l0), (1, .ref l1), (2, .ref l2), (4, .int v8)]) v8 [1, 2, 3, 0] d_XProver_putIn_49 rfl (by rw [ev8]; rfl) (by decide) rfl ?_
      refine ew_goto 24 d_XProver_putIn_52 (by decide) ?_
      exact ih l0 l1 l2 v8 M7 h
def F_XProver_putIn (n : Nat) (l0 : Nat) (l1 : Nat) (l2 : Nat) (l3 : Int32) (M : PM) : qO :=
  gR 5 M l0 4 (fun v1 =>
  wI M v1 (0 : Int32) (0 : Int32) (fun M2 =>
  gR 5 M2 l0 4 (fun v3 =>
  wI M2 v3 (1 : Int32) (1 : Int32) (fun M4 =>
  gR 5 M4 l0 4 (fun v5 =>
  wI M4 v5 (2 : Int32) l3 (fun M6 =>
  F_XProver_putIn_24 n n l0 l1 l2 (0 : Int32) M6))))))
set_option maxHeartbeats 4000000 in
set_option maxRecDepth 100000 in
theorem E_XProver_putIn {g : qG} {X : qX} {Z : qZ} (hn : 0 ≤ zn Z) (hl : 0 ≤ zl Z) {n : Nat} {l0 : Nat} {l1 : Nat} {l2 : Nat} {l3 : Int32} {M : PM} (h : F_XProver_putIn n l0 l1 l2 l3 M = some (zr Z, zf Z)) : EW Y_XProver_putIn g X Z 0 [(0, .ref l0), (1, .ref l1), (2, .ref l2), (3, .int l3)] [] M := by
  unfold F_XProver_putIn at h
  refine ew_aload_n 0 d_XProver_putIn_0 rfl rfl ?_
  obtain ⟨v1, av1, bv1, h⟩ := gR_inv h
  refine ew_gR 5 4 d_XProver_putIn_1 fl_XProver_40 av1 bv1 ?_
  refine ew_iconst (0) d_XProver_putIn_4 (by decide) ?_
  refine ew_iconst (0) d_XProver_putIn_5 (by decide) ?_
  obtain ⟨M2, aM2, bM2, cM2, eM2, h⟩ := wI_inv h
  refine ew_wI d_XProver_putIn_6 aM2 bM2 cM2 eM2 ?_
  refine ew_aload_n 0 d_XProver_putIn_7 rfl rfl ?_
  obtain ⟨v3, av3, bv3, h⟩ := gR_inv h
  refine ew_gR 5 4 d_XProver_putIn_8 fl_XProver_40 av3 bv3 ?_
  refine ew_iconst (1) d_XProver_putIn_11 (by decide) ?_
  refine ew_iconst (1) d_XProver_putIn_12 (by decide) ?_
  obtain ⟨M4, aM4, bM4, cM4, eM4, h⟩ := wI_inv h
  refine ew_wI d_XProver_putIn_13 aM4 bM4 cM4 eM4 ?_
  refine ew_aload_n 0 d_XProver_putIn_14 rfl rfl ?_
  obtain ⟨v5, av5, bv5, h⟩ := gR_inv h
  refine ew_gR 5 4 d_XProver_putIn_15 fl_XProver_40 av5 bv5 ?_
  refine ew_iconst (2) d_XProver_putIn_18 (by decide) ?_
  refine ew_iload_n 3 d_XProver_putIn_19 rfl rfl ?_
  obtain ⟨M6, aM6, bM6, cM6, eM6, h⟩ := wI_inv h
  refine ew_wI d_XProver_putIn_20 aM6 bM6 cM6 eM6 ?_
  refine ew_iconst (0) d_XProver_putIn_21 (by decide) ?_
  refine ew_istore (L' := [(0, .ref l0), (1, .ref l1), (2, .ref l2), (3, .int l3), (4, .int (0 : Int32))]) [1, 2, 3, 4, 0] d_XProver_putIn_22 (by decide) rfl ?_
  exact ew_pick (L' := [(0, .ref l0), (1, .ref l1), (2, .ref l2), (4, .int (0 : Int32))]) [0, 1, 2, 4] rfl (E_XProver_putIn_24 hn hl n l0 l1 l2 (0 : Int32) M6 h)
theorem T_XProver_putIn {n : Nat} {l0 : Nat} {l1 : Nat} {l2 : Nat} {l3 : Int32} {M Mf : PM} {res : qRs} (h : F_XProver_putIn n l0 l1 l2 l3 M = some (res, Mf)) : CT Y_XProver_putIn 0 0 [.ref l0, .ref l1, .ref l2, .int l3] M res Mf :=
  CT_of (by decide) (Nat.le_of_ble_eq_true rfl) (qHd_ne (by decide)) (fun g X ad0 => E_XProver_putIn (g := g) (X := X) (Z := (ad0, M, res, Mf, 0, 0)) (Nat.le_refl _) (Nat.le_refl _) h)
theorem d_XQuestion_addInvariant_0 : decode Y_XQuestion_addInvariant.2.1 0 = .ok (.aload_n 0, 1) := by decide +kernel
theorem d_XQuestion_addInvariant_1 : decode Y_XQuestion_addInvariant.2.1 1 = .ok (.getfield 21, 3) := by decide +kernel
theorem d_XQuestion_addInvariant_4 : decode Y_XQuestion_addInvariant.2.1 4 = .ok (.aload_n 0, 1) := by decide +kernel
theorem d_XQuestion_addInvariant_5 : decode Y_XQuestion_addInvariant.2.1 5 = .ok (.getfield 9, 3) := by decide +kernel
theorem d_XQuestion_addInvariant_8 : decode Y_XQuestion_addInvariant.2.1 8 = .ok (.arraylength, 1) := by decide +kernel
theorem d_XQuestion_addInvariant_9 : decode Y_XQuestion_addInvariant.2.1 9 = .ok (.if_icmp .ge (23), 3) := by decide +kernel
theorem d_XQuestion_addInvariant_12 : decode Y_XQuestion_addInvariant.2.1 12 = .ok (.aload_n 0, 1) := by decide +kernel
theorem d_XQuestion_addInvariant_13 : decode Y_XQuestion_addInvariant.2.1 13 = .ok (.getfield 9, 3) := by decide +kernel
theorem d_XQuestion_addInvariant_16 : decode Y_XQuestion_addInvariant.2.1 16 = .ok (.aload_n 0, 1) := by decide +kernel
theorem d_XQuestion_addInvariant_17 : decode Y_XQuestion_addInvariant.2.1 17 = .ok (.getfield 21, 3) := by decide +kernel
theorem d_XQuestion_addInvariant_20 : decode Y_XQuestion_addInvariant.2.1 20 = .ok (.iload_n 1, 1) := by decide +kernel
theorem d_XQuestion_addInvariant_21 : decode Y_XQuestion_addInvariant.2.1 21 = .ok (.iastore, 1) := by decide +kernel
theorem d_XQuestion_addInvariant_22 : decode Y_XQuestion_addInvariant.2.1 22 = .ok (.aload_n 0, 1) := by decide +kernel
theorem d_XQuestion_addInvariant_23 : decode Y_XQuestion_addInvariant.2.1 23 = .ok (.dup, 1) := by decide +kernel
theorem d_XQuestion_addInvariant_24 : decode Y_XQuestion_addInvariant.2.1 24 = .ok (.getfield 21, 3) := by decide +kernel
theorem d_XQuestion_addInvariant_27 : decode Y_XQuestion_addInvariant.2.1 27 = .ok (.iconst 1, 1) := by decide +kernel
theorem d_XQuestion_addInvariant_28 : decode Y_XQuestion_addInvariant.2.1 28 = .ok (.iadd, 1) := by decide +kernel
theorem d_XQuestion_addInvariant_29 : decode Y_XQuestion_addInvariant.2.1 29 = .ok (.putfield 21, 3) := by decide +kernel
theorem d_XQuestion_addInvariant_32 : decode Y_XQuestion_addInvariant.2.1 32 = .ok (.return_, 1) := by decide +kernel
def F_XQuestion_addInvariant_32 (n : Nat) (M : PM) : qO :=
  some (.inl none, M)
set_option maxHeartbeats 4000000 in
set_option maxRecDepth 100000 in
theorem E_XQuestion_addInvariant_32 {g : qG} {X : qX} {Z : qZ} (hn : 0 ≤ zn Z) (hl : 0 ≤ zl Z) {n : Nat} {M : PM} (h : F_XQuestion_addInvariant_32 n M = some (zr Z, zf Z)) : EW Y_XQuestion_addInvariant g X Z 32 [] [] M := by
  unfold F_XQuestion_addInvariant_32 at h
  obtain ⟨hz, hm⟩ := Prod.mk.inj (Option.some.inj h)
  exact ew_return d_XQuestion_addInvariant_32 rfl hz.symm hm.symm
def F_XQuestion_addInvariant (n : Nat) (l0 : Nat) (l1 : Int32) (M : PM) : qO :=
  gI 6 M l0 3 (fun v1 =>
  gR 6 M l0 0 (fun v2 =>
  aL M v2 (fun v3 =>
  if v3 ≤ v1 then
    F_XQuestion_addInvariant_32 n M
  else
    gR 6 M l0 0 (fun v5 =>
    gI 6 M l0 3 (fun v6 =>
    wI M v5 v6 l1 (fun M7 =>
    gI 6 M7 l0 3 (fun v8 =>
    pF 6 M7 l0 3 (.int (v8 + (1 : Int32))) (fun M9 =>
    F_XQuestion_addInvariant_32 n M9))))))))
set_option maxHeartbeats 4000000 in
set_option maxRecDepth 100000 in
theorem E_XQuestion_addInvariant {g : qG} {X : qX} {Z : qZ} (hn : 0 ≤ zn Z) (hl : 0 ≤ zl Z) {n : Nat} {l0 : Nat} {l1 : Int32} {M : PM} (h : F_XQuestion_addInvariant n l0 l1 M = some (zr Z, zf Z)) : EW Y_XQuestion_addInvariant g X Z 0 [(0, .ref l0), (1, .int l1)] [] M := by
  unfold F_XQuestion_addInvariant at h
  refine ew_aload_n 0 d_XQuestion_addInvariant_0 rfl rfl ?_
  obtain ⟨v1, av1, bv1, h⟩ := gI_inv h
  refine ew_gI 6 3 d_XQuestion_addInvariant_1 fl_XQuestion_21 av1 bv1 ?_
  refine ew_aload_n 0 d_XQuestion_addInvariant_4 rfl rfl ?_
  obtain ⟨v2, av2, bv2, h⟩ := gR_inv h
  refine ew_gR 6 0 d_XQuestion_addInvariant_5 fl_XQuestion_9 av2 bv2 ?_
  obtain ⟨v3, av3, ev3, h⟩ := aL_inv h
  refine ew_aL d_XQuestion_addInvariant_8 av3 ev3 ?_
  refine ew_icmp_ge 32 d_XQuestion_addInvariant_9 (by decide) (fun c4 => ?_) (fun c4 => ?_)
  · rw [if_pos c4] at h
    exact ew_pick (L' := []) [] rfl (E_XQuestion_addInvariant_32 hn hl h)
  · rw [if_neg c4] at h
    refine ew_aload_n 0 d_XQuestion_addInvariant_12 rfl rfl ?_
    obtain ⟨v5, av5, bv5, h⟩ := gR_inv h
    refine ew_gR 6 0 d_XQuestion_addInvariant_13 fl_XQuestion_9 av5 bv5 ?_
    refine ew_aload_n 0 d_XQuestion_addInvariant_16 rfl rfl ?_
    obtain ⟨v6, av6, bv6, h⟩ := gI_inv h
    refine ew_gI 6 3 d_XQuestion_addInvariant_17 fl_XQuestion_21 av6 bv6 ?_
    refine ew_iload_n 1 d_XQuestion_addInvariant_20 rfl rfl ?_
    obtain ⟨M7, aM7, bM7, cM7, eM7, h⟩ := wI_inv h
    refine ew_wI d_XQuestion_addInvariant_21 aM7 bM7 cM7 eM7 ?_
    refine ew_aload_n 0 d_XQuestion_addInvariant_22 rfl rfl ?_
    refine ew_dup d_XQuestion_addInvariant_23 rfl ?_
    obtain ⟨v8, av8, bv8, h⟩ := gI_inv h
    refine ew_gI 6 3 d_XQuestion_addInvariant_24 fl_XQuestion_21 av8 bv8 ?_
    refine ew_iconst (1) d_XQuestion_addInvariant_27 (by decide) ?_
    refine ew_iadd d_XQuestion_addInvariant_28 ?_
    obtain ⟨M9, aM9, eM9, h⟩ := pF_inv h
    refine ew_pF 6 3 d_XQuestion_addInvariant_29 fl_XQuestion_21 aM9 eM9 (fun ad => ⟨rfl, rfl⟩) ?_
    exact ew_pick (L' := []) [] rfl (E_XQuestion_addInvariant_32 hn hl h)
theorem T_XQuestion_addInvariant {n : Nat} {l0 : Nat} {l1 : Int32} {M Mf : PM} {res : qRs} (h : F_XQuestion_addInvariant n l0 l1 M = some (res, Mf)) : CT Y_XQuestion_addInvariant 0 0 [.ref l0, .int l1] M res Mf :=
  CT_of (by decide) (Nat.le_of_ble_eq_true rfl) (qHd_ne (by decide)) (fun g X ad0 => E_XQuestion_addInvariant (g := g) (X := X) (Z := (ad0, M, res, Mf, 0, 0)) (Nat.le_refl _) (Nat.le_refl _) h)
theorem d_XProver_begin_0 : decode Y_XProver_begin.2.1 0 = .ok (.aload_n 0, 1) := by decide +kernel
theorem d_XProver_begin_1 : decode Y_XProver_begin.2.1 1 = .ok (.getfield 14, 3) := by decide +kernel
theorem d_XProver_begin_4 : decode Y_XProver_begin.2.1 4 = .ok (.invokevirtual 115, 3) := by decide +kernel
theorem d_XProver_begin_7 : decode Y_XProver_begin.2.1 7 = .ok (.aload_n 0, 1) := by decide +kernel
theorem d_XProver_begin_8 : decode Y_XProver_begin.2.1 8 = .ok (.getfield 23, 3) := by decide +kernel
theorem d_XProver_begin_11 : decode Y_XProver_begin.2.1 11 = .ok (.invokevirtual 118, 3) := by decide +kernel
theorem d_XProver_begin_14 : decode Y_XProver_begin.2.1 14 = .ok (.iconst 0, 1) := by decide +kernel
theorem d_XProver_begin_15 : decode Y_XProver_begin.2.1 15 = .ok (.istore_n 2, 1) := by decide +kernel
theorem d_XProver_begin_16 : decode Y_XProver_begin.2.1 16 = .ok (.iload_n 2, 1) := by decide +kernel
theorem d_XProver_begin_17 : decode Y_XProver_begin.2.1 17 = .ok (.aload_n 1, 1) := by decide +kernel
theorem d_XProver_begin_18 : decode Y_XProver_begin.2.1 18 = .ok (.getfield 54, 3) := by decide +kernel
theorem d_XProver_begin_21 : decode Y_XProver_begin.2.1 21 = .ok (.if_icmp .ge (58), 3) := by decide +kernel
theorem d_XProver_begin_24 : decode Y_XProver_begin.2.1 24 = .ok (.aload_n 1, 1) := by decide +kernel
theorem d_XProver_begin_25 : decode Y_XProver_begin.2.1 25 = .ok (.getfield 101, 3) := by decide +kernel
theorem d_XProver_begin_28 : decode Y_XProver_begin.2.1 28 = .ok (.aload_n 1, 1) := by decide +kernel
theorem d_XProver_begin_29 : decode Y_XProver_begin.2.1 29 = .ok (.getfield 120, 3) := by decide +kernel
theorem d_XProver_begin_32 : decode Y_XProver_begin.2.1 32 = .ok (.iload_n 2, 1) := by decide +kernel
theorem d_XProver_begin_33 : decode Y_XProver_begin.2.1 33 = .ok (.iaload, 1) := by decide +kernel
theorem d_XProver_begin_34 : decode Y_XProver_begin.2.1 34 = .ok (.invokevirtual 123, 3) := by decide +kernel
theorem d_XProver_begin_37 : decode Y_XProver_begin.2.1 37 = .ok (.ifCond .eq (7), 3) := by decide +kernel
theorem d_XProver_begin_40 : decode Y_XProver_begin.2.1 40 = .ok (.iconst 3, 1) := by decide +kernel
theorem d_XProver_begin_41 : decode Y_XProver_begin.2.1 41 = .ok (.goto (4), 3) := by decide +kernel
theorem d_XProver_begin_44 : decode Y_XProver_begin.2.1 44 = .ok (.iconst 4, 1) := by decide +kernel
theorem d_XProver_begin_45 : decode Y_XProver_begin.2.1 45 = .ok (.istore_n 3, 1) := by decide +kernel
theorem d_XProver_begin_46 : decode Y_XProver_begin.2.1 46 = .ok (.aload_n 0, 1) := by decide +kernel
theorem d_XProver_begin_47 : decode Y_XProver_begin.2.1 47 = .ok (.getfield 44, 3) := by decide +kernel
theorem d_XProver_begin_50 : decode Y_XProver_begin.2.1 50 = .ok (.iload_n 2, 1) := by decide +kernel
theorem d_XProver_begin_51 : decode Y_XProver_begin.2.1 51 = .ok (.aload_n 0, 1) := by decide +kernel
theorem d_XProver_begin_52 : decode Y_XProver_begin.2.1 52 = .ok (.getfield 14, 3) := by decide +kernel
theorem d_XProver_begin_55 : decode Y_XProver_begin.2.1 55 = .ok (.iload_n 3, 1) := by decide +kernel
theorem d_XProver_begin_56 : decode Y_XProver_begin.2.1 56 = .ok (.iload_n 2, 1) := by decide +kernel
theorem d_XProver_begin_57 : decode Y_XProver_begin.2.1 57 = .ok (.invokevirtual 127, 3) := by decide +kernel
theorem d_XProver_begin_60 : decode Y_XProver_begin.2.1 60 = .ok (.iastore, 1) := by decide +kernel
theorem d_XProver_begin_61 : decode Y_XProver_begin.2.1 61 = .ok (.aload_n 0, 1) := by decide +kernel
theorem d_XProver_begin_62 : decode Y_XProver_begin.2.1 62 = .ok (.getfield 47, 3) := by decide +kernel
theorem d_XProver_begin_65 : decode Y_XProver_begin.2.1 65 = .ok (.iload_n 2, 1) := by decide +kernel
theorem d_XProver_begin_66 : decode Y_XProver_begin.2.1 66 = .ok (.aload_n 0, 1) := by decide +kernel
theorem d_XProver_begin_67 : decode Y_XProver_begin.2.1 67 = .ok (.getfield 44, 3) := by decide +kernel
theorem d_XProver_begin_70 : decode Y_XProver_begin.2.1 70 = .ok (.iload_n 2, 1) := by decide +kernel
theorem d_XProver_begin_71 : decode Y_XProver_begin.2.1 71 = .ok (.iaload, 1) := by decide +kernel
theorem d_XProver_begin_72 : decode Y_XProver_begin.2.1 72 = .ok (.iastore, 1) := by decide +kernel
theorem d_XProver_begin_73 : decode Y_XProver_begin.2.1 73 = .ok (.iinc 2 (1), 3) := by decide +kernel
theorem d_XProver_begin_76 : decode Y_XProver_begin.2.1 76 = .ok (.goto (-60), 3) := by decide +kernel
theorem d_XProver_begin_79 : decode Y_XProver_begin.2.1 79 = .ok (.aload_n 0, 1) := by decide +kernel
theorem d_XProver_begin_80 : decode Y_XProver_begin.2.1 80 = .ok (.aload_n 1, 1) := by decide +kernel
theorem d_XProver_begin_81 : decode Y_XProver_begin.2.1 81 = .ok (.aload_n 0, 1) := by decide +kernel
theorem d_XProver_begin_82 : decode Y_XProver_begin.2.1 82 = .ok (.getfield 44, 3) := by decide +kernel
theorem d_XProver_begin_85 : decode Y_XProver_begin.2.1 85 = .ok (.iconst 2, 1) := by decide +kernel
theorem d_XProver_begin_86 : decode Y_XProver_begin.2.1 86 = .ok (.invokevirtual 98, 3) := by decide +kernel
theorem d_XProver_begin_89 : decode Y_XProver_begin.2.1 89 = .ok (.aload_n 0, 1) := by decide +kernel
theorem d_XProver_begin_90 : decode Y_XProver_begin.2.1 90 = .ok (.getfield 14, 3) := by decide +kernel
theorem d_XProver_begin_93 : decode Y_XProver_begin.2.1 93 = .ok (.aload_n 1, 1) := by decide +kernel
theorem d_XProver_begin_94 : decode Y_XProver_begin.2.1 94 = .ok (.getfield 101, 3) := by decide +kernel
theorem d_XProver_begin_97 : decode Y_XProver_begin.2.1 97 = .ok (.aload_n 0, 1) := by decide +kernel
theorem d_XProver_begin_98 : decode Y_XProver_begin.2.1 98 = .ok (.getfield 40, 3) := by decide +kernel
theorem d_XProver_begin_101 : decode Y_XProver_begin.2.1 101 = .ok (.invokevirtual 104, 3) := by decide +kernel
theorem d_XProver_begin_104 : decode Y_XProver_begin.2.1 104 = .ok (.iconst 0, 1) := by decide +kernel
theorem d_XProver_begin_105 : decode Y_XProver_begin.2.1 105 = .ok (.istore_n 2, 1) := by decide +kernel
theorem d_XProver_begin_106 : decode Y_XProver_begin.2.1 106 = .ok (.iload_n 2, 1) := by decide +kernel
theorem d_XProver_begin_107 : decode Y_XProver_begin.2.1 107 = .ok (.aload_n 1, 1) := by decide +kernel
theorem d_XProver_begin_108 : decode Y_XProver_begin.2.1 108 = .ok (.getfield 130, 3) := by decide +kernel
theorem d_XProver_begin_111 : decode Y_XProver_begin.2.1 111 = .ok (.if_icmp .ge (27), 3) := by decide +kernel
theorem d_XProver_begin_114 : decode Y_XProver_begin.2.1 114 = .ok (.aload_n 0, 1) := by decide +kernel
theorem d_XProver_begin_115 : decode Y_XProver_begin.2.1 115 = .ok (.getfield 23, 3) := by decide +kernel
theorem d_XProver_begin_118 : decode Y_XProver_begin.2.1 118 = .ok (.aload_n 0, 1) := by decide +kernel
theorem d_XProver_begin_119 : decode Y_XProver_begin.2.1 119 = .ok (.getfield 40, 3) := by decide +kernel
theorem d_XProver_begin_122 : decode Y_XProver_begin.2.1 122 = .ok (.aload_n 1, 1) := by decide +kernel
theorem d_XProver_begin_123 : decode Y_XProver_begin.2.1 123 = .ok (.getfield 108, 3) := by decide +kernel
theorem d_XProver_begin_126 : decode Y_XProver_begin.2.1 126 = .ok (.iload_n 2, 1) := by decide +kernel
theorem d_XProver_begin_127 : decode Y_XProver_begin.2.1 127 = .ok (.iaload, 1) := by decide +kernel
theorem d_XProver_begin_128 : decode Y_XProver_begin.2.1 128 = .ok (.iaload, 1) := by decide +kernel
theorem d_XProver_begin_129 : decode Y_XProver_begin.2.1 129 = .ok (.invokevirtual 133, 3) := by decide +kernel
theorem d_XProver_begin_132 : decode Y_XProver_begin.2.1 132 = .ok (.iinc 2 (1), 3) := by decide +kernel
theorem d_XProver_begin_135 : decode Y_XProver_begin.2.1 135 = .ok (.goto (-29), 3) := by decide +kernel
theorem d_XProver_begin_138 : decode Y_XProver_begin.2.1 138 = .ok (.return_, 1) := by decide +kernel
def F_XProver_begin_45 (n : Nat) (rec16 : Nat → Nat → Int32 → PM → qO) (l0 : Nat) (l1 : Nat) (l2 : Int32) (s0 : Int32) (M : PM) : qO :=
  gR 5 M l0 5 (fun v1 =>
  gR 5 M l0 0 (fun v2 =>
  kO 2 M v2 (
  cI (F_XNodes_makeElement n v2 s0 l2 M) (fun v4 M3 =>
  wI M3 v1 l2 v4 (fun M5 =>
  gR 5 M5 l0 6 (fun v6 =>
  gR 5 M5 l0 5 (fun v7 =>
  lI M5 v7 l2 (fun v8 =>
  wI M5 v6 l2 v8 (fun M9 =>
  bI (l2 + (1 : Int32)) (fun v10 =>
  rec16 l0 l1 v10 M9))))))))))
set_option maxHeartbeats 4000000 in
set_option maxRecDepth 100000 in
theorem E_XProver_begin_45 {g : qG} {X : qX} {Z : qZ} (hn : 4 ≤ zn Z) (hl : 97 ≤ zl Z) {n : Nat} {rec16 : Nat → Nat → Int32 → PM → qO} (hrec16 : ∀ (l0 : Nat) (l1 : Nat) (l2 : Int32) (M : PM), rec16 l0 l1 l2 M = some (zr Z, zf Z) → EW Y_XProver_begin g X Z 16 [(0, .ref l0), (1, .ref l1), (2, .int l2)] [] M) {l0 : Nat} {l1 : Nat} {l2 : Int32} {s0 : Int32} {M : PM} (h : F_XProver_begin_45 n rec16 l0 l1 l2 s0 M = some (zr Z, zf Z)) : EW Y_XProver_begin g X Z 45 [(0, .ref l0), (1, .ref l1), (2, .int l2)] [.int s0] M := by
  unfold F_XProver_begin_45 at h
  refine ew_istore_n (L' := [(0, .ref l0), (1, .ref l1), (2, .int l2), (3, .int s0)]) 3 [1, 2, 3, 0] d_XProver_begin_45 rfl (by decide) rfl ?_
  refine ew_aload_n 0 d_XProver_begin_46 rfl rfl ?_
  obtain ⟨v1, av1, bv1, h⟩ := gR_inv h
  refine ew_gR 5 5 d_XProver_begin_47 fl_XProver_44 av1 bv1 ?_
  refine ew_iload_n 2 d_XProver_begin_50 rfl rfl ?_
  refine ew_aload_n 0 d_XProver_begin_51 rfl rfl ?_
  obtain ⟨v2, av2, bv2, h⟩ := gR_inv h
  refine ew_gR 5 0 d_XProver_begin_52 fl_XProver_14 av2 bv2 ?_
  refine ew_iload_n 3 d_XProver_begin_55 rfl rfl ?_
  refine ew_iload_n 2 d_XProver_begin_56 rfl rfl ?_
  obtain ⟨kM3, h⟩ := kO_inv h
  obtain ⟨v4, M3, hM3, h⟩ := cI_inv h
  refine ew_callV 2 [.int s0, .int l2] d_XProver_begin_57 cv_XProver_127 (T_XNodes_makeElement hM3) kM3 (Nat.le_trans (Nat.le_of_ble_eq_true rfl) hn) (Nat.le_trans (Nat.le_of_ble_eq_true rfl) hl) (Nat.le_of_ble_eq_true rfl) rfl rfl ?_
  obtain ⟨M5, aM5, bM5, cM5, eM5, h⟩ := wI_inv h
  refine ew_wI d_XProver_begin_60 aM5 bM5 cM5 eM5 ?_
  refine ew_aload_n 0 d_XProver_begin_61 rfl rfl ?_
  obtain ⟨v6, av6, bv6, h⟩ := gR_inv h
  refine ew_gR 5 6 d_XProver_begin_62 fl_XProver_47 av6 bv6 ?_
  refine ew_iload_n 2 d_XProver_begin_65 rfl rfl ?_
  refine ew_aload_n 0 d_XProver_begin_66 rfl rfl ?_
  obtain ⟨v7, av7, bv7, h⟩ := gR_inv h
  refine ew_gR 5 5 d_XProver_begin_67 fl_XProver_44 av7 bv7 ?_
  refine ew_iload_n 2 d_XProver_begin_70 rfl rfl ?_
  obtain ⟨v8, av8, bv8, cv8, ev8, h⟩ := lI_inv h
  refine ew_lI d_XProver_begin_71 av8 bv8 cv8 ev8 ?_
  obtain ⟨M9, aM9, bM9, cM9, eM9, h⟩ := wI_inv h
  refine ew_wI d_XProver_begin_72 aM9 bM9 cM9 eM9 ?_
  obtain ⟨v10, ev10, h⟩ := bI_inv h
  refine ew_iinc (L' := [(0, .ref l0), (1, .ref l1), (2, .int v10), (3, .int s0)]) v10 [1, 2, 0, 3] d_XProver_begin_73 rfl (by rw [ev10]; rfl) (by decide) rfl ?_
  refine ew_goto 16 d_XProver_begin_76 (by decide) ?_
  exact ew_pick (L' := [(0, .ref l0), (1, .ref l1), (2, .int v10)]) [0, 1, 2] rfl (hrec16 l0 l1 v10 M9 h)
def F_XProver_begin_106 (n : Nat) : Nat → Nat → Nat → Int32 → PM → qO
  | 0, _, _, _, _ => none
  | f + 1, l0, l1, l2, M =>
    gI 1 M l1 7 (fun v1 =>
    if v1 ≤ l2 then
      some (.inl none, M)
    else
      gR 5 M l0 1 (fun v3 =>
      gR 5 M l0 4 (fun v4 =>
      gR 1 M l1 4 (fun v5 =>
      lI M v5 l2 (fun v6 =>
      lI M v4 v6 (fun v7 =>
      kO 6 M v3 (
      cV (F_XQuestion_addInvariant n v3 v7 M) (fun M8 =>
      bI (l2 + (1 : Int32)) (fun v9 =>
      (F_XProver_begin_106 n f) l0 l1 v9 M8)))))))))
set_option maxHeartbeats 4000000 in
set_option maxRecDepth 100000 in
theorem E_XProver_begin_106 {g : qG} {X : qX} {Z : qZ} (hn : 4 ≤ zn Z) (hl : 97 ≤ zl Z) {n : Nat} : ∀ (f : Nat) (l0 : Nat) (l1 : Nat) (l2 : Int32) (M : PM), F_XProver_begin_106 n f l0 l1 l2 M = some (zr Z, zf Z) → EW Y_XProver_begin g X Z 106 [(0, .ref l0), (1, .ref l1), (2, .int l2)] [] M := by
  intro f
  induction f with
  | zero => intro l0 l1 l2 M h; rw [F_XProver_begin_106] at h; cases h
  | succ f ih =>
    intro l0 l1 l2 M h
    rw [F_XProver_begin_106] at h
    refine ew_iload_n 2 d_XProver_begin_106 rfl rfl ?_
    refine ew_aload_n 1 d_XProver_begin_107 rfl rfl ?_
    obtain ⟨v1, av1, bv1, h⟩ := gI_inv h
    refine ew_gI 1 7 d_XProver_begin_108 fl_XProver_130 av1 bv1 ?_
    refine ew_icmp_ge 138 d_XProver_begin_111 (by decide) (fun c2 => ?_) (fun c2 => ?_)
    · rw [if_pos c2] at h
      obtain ⟨hz, hm⟩ := Prod.mk.inj (Option.some.inj h)
      exact ew_return d_XProver_begin_138 rfl hz.symm hm.symm
    · rw [if_neg c2] at h
      refine ew_aload_n 0 d_XProver_begin_114 rfl rfl ?_
      obtain ⟨v3, av3, bv3, h⟩ := gR_inv h
      refine ew_gR 5 1 d_XProver_begin_115 fl_XProver_23 av3 bv3 ?_
      refine ew_aload_n 0 d_XProver_begin_118 rfl rfl ?_
      obtain ⟨v4, av4, bv4, h⟩ := gR_inv h
      refine ew_gR 5 4 d_XProver_begin_119 fl_XProver_40 av4 bv4 ?_
      refine ew_aload_n 1 d_XProver_begin_122 rfl rfl ?_
      obtain ⟨v5, av5, bv5, h⟩ := gR_inv h
      refine ew_gR 1 4 d_XProver_begin_123 fl_XProver_108 av5 bv5 ?_
      refine ew_iload_n 2 d_XProver_begin_126 rfl rfl ?_
      obtain ⟨v6, av6, bv6, cv6, ev6, h⟩ := lI_inv h
      refine ew_lI d_XProver_begin_127 av6 bv6 cv6 ev6 ?_
      obtain ⟨v7, av7, bv7, cv7, ev7, h⟩ := lI_inv h
      refine ew_lI d_XProver_begin_128 av7 bv7 cv7 ev7 ?_
      obtain ⟨kM8, h⟩ := kO_inv h
      obtain ⟨M8, hM8, h⟩ := cV_inv h
      refine ew_callV 6 [.int v7] d_XProver_begin_129 cv_XProver_133 (T_XQuestion_addInvariant hM8) kM8 (Nat.le_trans (Nat.le_of_ble_eq_true rfl) hn) (Nat.le_trans (Nat.le_of_ble_eq_true rfl) hl) (Nat.le_of_ble_eq_true rfl) rfl rfl ?_
      obtain ⟨v9, ev9, h⟩ := bI_inv h
      refine ew_iinc (L' := [(0, .ref l0), (1, .ref l1), (2, .int v9)]) v9 [1, 2, 0] d_XProver_begin_132 rfl (by rw [ev9]; rfl) (by decide) rfl ?_
      refine ew_goto 106 d_XProver_begin_135 (by decide) ?_
      exact ih l0 l1 v9 M8 h
def F_XProver_begin_16 (n : Nat) : Nat → Nat → Nat → Int32 → PM → qO
  | 0, _, _, _, _ => none
  | f + 1, l0, l1, l2, M =>
    gI 1 M l1 5 (fun v1 =>
    if v1 ≤ l2 then
      gR 5 M l0 5 (fun v3 =>
      kO 5 M l0 (
      cV (F_XProver_putIn n l0 l1 v3 (2 : Int32) M) (fun M4 =>
      gR 5 M4 l0 0 (fun v5 =>
      gR 1 M4 l1 0 (fun v6 =>
      gR 5 M4 l0 4 (fun v7 =>
      kO 2 M4 v5 (
      cV (F_XNodes_remakeAll n v5 v6 v7 M4) (fun M8 =>
      F_XProver_begin_106 n n l0 l1 (0 : Int32) M8))))))))
    else
      gR 1 M l1 0 (fun v9 =>
      gR 1 M l1 1 (fun v10 =>
      lI M v10 l2 (fun v11 =>
      kO 2 M v9 (
      cI (F_XNodes_isWord n v9 v11 M) (fun v13 M12 =>
      if v13 = (0 : Int32) then
        F_XProver_begin_45 n (F_XProver_begin_16 n f) l0 l1 l2 (4 : Int32) M12
      else
        F_XProver_begin_45 n (F_XProver_begin_16 n f) l0 l1 l2 (3 : Int32) M12))))))
set_option maxHeartbeats 4000000 in
set_option maxRecDepth 100000 in
theorem E_XProver_begin_16 {g : qG} {X : qX} {Z : qZ} (hn : 4 ≤ zn Z) (hl : 97 ≤ zl Z) {n : Nat} : ∀ (f : Nat) (l0 : Nat) (l1 : Nat) (l2 : Int32) (M : PM), F_XProver_begin_16 n f l0 l1 l2 M = some (zr Z, zf Z) → EW Y_XProver_begin g X Z 16 [(0, .ref l0), (1, .ref l1), (2, .int l2)] [] M := by
  intro f
  induction f with
  | zero => intro l0 l1 l2 M h; rw [F_XProver_begin_16] at h; cases h
  | succ f ih =>
    intro l0 l1 l2 M h
    rw [F_XProver_begin_16] at h
    refine ew_iload_n 2 d_XProver_begin_16 rfl rfl ?_
    refine ew_aload_n 1 d_XProver_begin_17 rfl rfl ?_
    obtain ⟨v1, av1, bv1, h⟩ := gI_inv h
    refine ew_gI 1 5 d_XProver_begin_18 fl_XProver_54 av1 bv1 ?_
    refine ew_icmp_ge 79 d_XProver_begin_21 (by decide) (fun c2 => ?_) (fun c2 => ?_)
    · rw [if_pos c2] at h
      refine ew_aload_n 0 d_XProver_begin_79 rfl rfl ?_
      refine ew_aload_n 1 d_XProver_begin_80 rfl rfl ?_
      refine ew_aload_n 0 d_XProver_begin_81 rfl rfl ?_
      obtain ⟨v3, av3, bv3, h⟩ := gR_inv h
      refine ew_gR 5 5 d_XProver_begin_82 fl_XProver_44 av3 bv3 ?_
      refine ew_iconst (2) d_XProver_begin_85 (by decide) ?_
      obtain ⟨kM4, h⟩ := kO_inv h
      obtain ⟨M4, hM4, h⟩ := cV_inv h
      refine ew_callV 5 [.ref l1, .ref v3, .int (2 : Int32)] d_XProver_begin_86 cv_XProver_98 (T_XProver_putIn hM4) kM4 (Nat.le_trans (Nat.le_of_ble_eq_true rfl) hn) (Nat.le_trans (Nat.le_of_ble_eq_true rfl) hl) (Nat.le_of_ble_eq_true rfl) rfl rfl ?_
      refine ew_aload_n 0 d_XProver_begin_89 rfl rfl ?_
      obtain ⟨v5, av5, bv5, h⟩ := gR_inv h
      refine ew_gR 5 0 d_XProver_begin_90 fl_XProver_14 av5 bv5 ?_
      refine ew_aload_n 1 d_XProver_begin_93 rfl rfl ?_
      obtain ⟨v6, av6, bv6, h⟩ := gR_inv h
      refine ew_gR 1 0 d_XProver_begin_94 fl_XProver_101 av6 bv6 ?_
      refine ew_aload_n 0 d_XProver_begin_97 rfl rfl ?_
      obtain ⟨v7, av7, bv7, h⟩ := gR_inv h
      refine ew_gR 5 4 d_XProver_begin_98 fl_XProver_40 av7 bv7 ?_
      obtain ⟨kM8, h⟩ := kO_inv h
      obtain ⟨M8, hM8, h⟩ := cV_inv h
      refine ew_callV 2 [.ref v6, .ref v7] d_XProver_begin_101 cv_XProver_104 (T_XNodes_remakeAll hM8) kM8 (Nat.le_trans (Nat.le_of_ble_eq_true rfl) hn) (Nat.le_trans (Nat.le_of_ble_eq_true rfl) hl) (Nat.le_of_ble_eq_true rfl) rfl rfl ?_
      refine ew_iconst (0) d_XProver_begin_104 (by decide) ?_
      refine ew_istore_n (L' := [(0, .ref l0), (1, .ref l1), (2, .int (0 : Int32))]) 2 [1, 2, 0] d_XProver_begin_105 rfl (by decide) rfl ?_
      exact E_XProver_begin_106 hn hl n l0 l1 (0 : Int32) M8 h
    · rw [if_neg c2] at h
      refine ew_aload_n 1 d_XProver_begin_24 rfl rfl ?_
      obtain ⟨v9, av9, bv9, h⟩ := gR_inv h
      refine ew_gR 1 0 d_XProver_begin_25 fl_XProver_101 av9 bv9 ?_
      refine ew_aload_n 1 d_XProver_begin_28 rfl rfl ?_
      obtain ⟨v10, av10, bv10, h⟩ := gR_inv h
      refine ew_gR 1 1 d_XProver_begin_29 fl_XProver_120 av10 bv10 ?_
      refine ew_iload_n 2 d_XProver_begin_32 rfl rfl ?_
      obtain ⟨v11, av11, bv11, cv11, ev11, h⟩ := lI_inv h
      refine ew_lI d_XProver_begin_33 av11 bv11 cv11 ev11 ?_
      obtain ⟨kM12, h⟩ := kO_inv h
      obtain ⟨v13, M12, hM12, h⟩ := cI_inv h
      refine ew_callV 2 [.int v11] d_XProver_begin_34 cv_XProver_123 (T_XNodes_isWord hM12) kM12 (Nat.le_trans (Nat.le_of_ble_eq_true rfl) hn) (Nat.le_trans (Nat.le_of_ble_eq_true rfl) hl) (Nat.le_of_ble_eq_true rfl) rfl rfl ?_
      refine ew_if_eq 44 d_XProver_begin_37 (by decide) (fun c14 => ?_) (fun c14 => ?_)
      · rw [if_pos c14] at h
        refine ew_iconst (4) d_XProver_begin_44 (by decide) ?_
        exact E_XProver_begin_45 hn hl ih h
      · rw [if_neg c14] at h
        refine ew_iconst (3) d_XProver_begin_40 (by decide) ?_
        refine ew_goto 45 d_XProver_begin_41 (by decide) ?_
        exact E_XProver_begin_45 hn hl ih h
def F_XProver_begin (n : Nat) (l0 : Nat) (l1 : Nat) (M : PM) : qO :=
  gR 5 M l0 0 (fun v1 =>
  kO 2 M v1 (
  cV (F_XNodes_reset n v1 M) (fun M2 =>
  gR 5 M2 l0 1 (fun v3 =>
  kO 6 M2 v3 (
  cV (F_XQuestion_begin n v3 M2) (fun M4 =>
  F_XProver_begin_16 n n l0 l1 (0 : Int32) M4))))))
set_option maxHeartbeats 4000000 in
set_option maxRecDepth 100000 in
theorem E_XProver_begin {g : qG} {X : qX} {Z : qZ} (hn : 4 ≤ zn Z) (hl : 97 ≤ zl Z) {n : Nat} {l0 : Nat} {l1 : Nat} {M : PM} (h : F_XProver_begin n l0 l1 M = some (zr Z, zf Z)) : EW Y_XProver_begin g X Z 0 [(0, .ref l0), (1, .ref l1)] [] M := by
  unfold F_XProver_begin at h
  refine ew_aload_n 0 d_XProver_begin_0 rfl rfl ?_
  obtain ⟨v1, av1, bv1, h⟩ := gR_inv h
  refine ew_gR 5 0 d_XProver_begin_1 fl_XProver_14 av1 bv1 ?_
  obtain ⟨kM2, h⟩ := kO_inv h
  obtain ⟨M2, hM2, h⟩ := cV_inv h
  refine ew_callV 2 [] d_XProver_begin_4 cv_XProver_115 (T_XNodes_reset hM2) kM2 (Nat.le_trans (Nat.le_of_ble_eq_true rfl) hn) (Nat.le_trans (Nat.le_of_ble_eq_true rfl) hl) (Nat.le_of_ble_eq_true rfl) rfl rfl ?_
  refine ew_aload_n 0 d_XProver_begin_7 rfl rfl ?_
  obtain ⟨v3, av3, bv3, h⟩ := gR_inv h
  refine ew_gR 5 1 d_XProver_begin_8 fl_XProver_23 av3 bv3 ?_
  obtain ⟨kM4, h⟩ := kO_inv h
  obtain ⟨M4, hM4, h⟩ := cV_inv h
  refine ew_callV 6 [] d_XProver_begin_11 cv_XProver_118 (T_XQuestion_begin hM4) kM4 (Nat.le_trans (Nat.le_of_ble_eq_true rfl) hn) (Nat.le_trans (Nat.le_of_ble_eq_true rfl) hl) (Nat.le_of_ble_eq_true rfl) rfl rfl ?_
  refine ew_iconst (0) d_XProver_begin_14 (by decide) ?_
  refine ew_istore_n (L' := [(0, .ref l0), (1, .ref l1), (2, .int (0 : Int32))]) 2 [1, 2, 0] d_XProver_begin_15 rfl (by decide) rfl ?_
  exact E_XProver_begin_16 hn hl n l0 l1 (0 : Int32) M4 h
theorem T_XProver_begin {n : Nat} {l0 : Nat} {l1 : Nat} {M Mf : PM} {res : qRs} (h : F_XProver_begin n l0 l1 M = some (res, Mf)) : CT Y_XProver_begin 4 97 [.ref l0, .ref l1] M res Mf :=
  CT_of (by decide) (Nat.le_of_ble_eq_true rfl) (qHd_ne (by decide)) (fun g X ad0 => E_XProver_begin (g := g) (X := X) (Z := (ad0, M, res, Mf, 4, 97)) (Nat.le_refl _) (Nat.le_refl _) h)
theorem d_XProver_takeImages_0 : decode Y_XProver_takeImages.2.1 0 = .ok (.iconst 0, 1) := by decide +kernel
theorem d_XProver_takeImages_1 : decode Y_XProver_takeImages.2.1 1 = .ok (.istore 4, 2) := by decide +kernel
theorem d_XProver_takeImages_3 : decode Y_XProver_takeImages.2.1 3 = .ok (.iload 4, 2) := by decide +kernel
theorem d_XProver_takeImages_5 : decode Y_XProver_takeImages.2.1 5 = .ok (.aload_n 1, 1) := by decide +kernel
theorem d_XProver_takeImages_6 : decode Y_XProver_takeImages.2.1 6 = .ok (.getfield 54, 3) := by decide +kernel
theorem d_XProver_takeImages_9 : decode Y_XProver_takeImages.2.1 9 = .ok (.if_icmp .ge (30), 3) := by decide +kernel
theorem d_XProver_takeImages_12 : decode Y_XProver_takeImages.2.1 12 = .ok (.aload_n 2, 1) := by decide +kernel
theorem d_XProver_takeImages_13 : decode Y_XProver_takeImages.2.1 13 = .ok (.iload 4, 2) := by decide +kernel
theorem d_XProver_takeImages_15 : decode Y_XProver_takeImages.2.1 15 = .ok (.iaload, 1) := by decide +kernel
theorem d_XProver_takeImages_16 : decode Y_XProver_takeImages.2.1 16 = .ok (.iconst (-1), 1) := by decide +kernel
theorem d_XProver_takeImages_17 : decode Y_XProver_takeImages.2.1 17 = .ok (.if_icmp .eq (16), 3) := by decide +kernel
theorem d_XProver_takeImages_20 : decode Y_XProver_takeImages.2.1 20 = .ok (.aload_n 3, 1) := by decide +kernel
theorem d_XProver_takeImages_21 : decode Y_XProver_takeImages.2.1 21 = .ok (.iload 4, 2) := by decide +kernel
theorem d_XProver_takeImages_23 : decode Y_XProver_takeImages.2.1 23 = .ok (.aload_n 0, 1) := by decide +kernel
theorem d_XProver_takeImages_24 : decode Y_XProver_takeImages.2.1 24 = .ok (.getfield 40, 3) := by decide +kernel
theorem d_XProver_takeImages_27 : decode Y_XProver_takeImages.2.1 27 = .ok (.aload_n 2, 1) := by decide +kernel
theorem d_XProver_takeImages_28 : decode Y_XProver_takeImages.2.1 28 = .ok (.iload 4, 2) := by decide +kernel
theorem d_XProver_takeImages_30 : decode Y_XProver_takeImages.2.1 30 = .ok (.iaload, 1) := by decide +kernel
theorem d_XProver_takeImages_31 : decode Y_XProver_takeImages.2.1 31 = .ok (.iaload, 1) := by decide +kernel
theorem d_XProver_takeImages_32 : decode Y_XProver_takeImages.2.1 32 = .ok (.iastore, 1) := by decide +kernel
theorem d_XProver_takeImages_33 : decode Y_XProver_takeImages.2.1 33 = .ok (.iinc 4 (1), 3) := by decide +kernel
theorem d_XProver_takeImages_36 : decode Y_XProver_takeImages.2.1 36 = .ok (.goto (-33), 3) := by decide +kernel
theorem d_XProver_takeImages_39 : decode Y_XProver_takeImages.2.1 39 = .ok (.return_, 1) := by decide +kernel
def F_XProver_takeImages_33 (n : Nat) (rec3 : Nat → Nat → Nat → Nat → Int32 → PM → qO) (l0 : Nat) (l1 : Nat) (l2 : Nat) (l3 : Nat) (l4 : Int32) (M : PM) : qO :=
  bI (l4 + (1 : Int32)) (fun v1 =>
  rec3 l0 l1 l2 l3 v1 M)
set_option maxHeartbeats 4000000 in
set_option maxRecDepth 100000 in
theorem E_XProver_takeImages_33 {g : qG} {X : qX} {Z : qZ} (hn : 0 ≤ zn Z) (hl : 0 ≤ zl Z) {n : Nat} {rec3 : Nat → Nat → Nat → Nat → Int32 → PM → qO} (hrec3 : ∀ (l0 : Nat) (l1 : Nat) (l2 : Nat) (l3 : Nat) (l4 : Int32) (M : PM), rec3 l0 l1 l2 l3 l4 M = some (zr Z, zf Z) → EW Y_XProver_takeImages g X Z 3 [(0, .ref l0), (1, .ref l1), (2, .ref l2), (3, .ref l3), (4, .int l4)] [] M) {l0 : Nat} {l1 : Nat} {l2 : Nat} {l3 : Nat} {l4 : Int32} {M : PM} (h : F_XProver_takeImages_33 n rec3 l0 l1 l2 l3 l4 M = some (zr Z, zf Z)) : EW Y_XProver_takeImages g X Z 33 [(0, .ref l0), (1, .ref l1), (2, .ref l2), (3, .ref l3), (4, .int l4)] [] M := by
  unfold F_XProver_takeImages_33 at h
  obtain ⟨v1, ev1, h⟩ := bI_inv h
  refine ew_iinc (L' := [(0, .ref l0), (1, .ref l1), (2, .ref l2), (3, .ref l3), (4, .int v1)]) v1 [1, 2, 3, 4, 0] d_XProver_takeImages_33 rfl (by rw [ev1]; rfl) (by decide) rfl ?_
  refine ew_goto 3 d_XProver_takeImages_36 (by decide) ?_
  exact hrec3 l0 l1 l2 l3 v1 M h
def F_XProver_takeImages_3 (n : Nat) : Nat → Nat → Nat → Nat → Nat → Int32 → PM → qO
  | 0, _, _, _, _, _, _ => none
  | f + 1, l0, l1, l2, l3, l4, M =>
    gI 1 M l1 5 (fun v1 =>
    if v1 ≤ l4 then
      some (.inl none, M)
    else
      lI M l2 l4 (fun v3 =>
      if v3 = (-1 : Int32) then
        F_XProver_takeImages_33 n (F_XProver_takeImages_3 n f) l0 l1 l2 l3 l4 M
      else
        gR 5 M l0 4 (fun v5 =>
        lI M l2 l4 (fun v6 =>
        lI M v5 v6 (fun v7 =>
        wI M l3 l4 v7 (fun M8 =>
        F_XProver_takeImages_33 n (F_XProver_takeImages_3 n f) l0 l1 l2 l3 l4 M8))))))
set_option maxHeartbeats 4000000 in
set_option maxRecDepth 100000 in
theorem E_XProver_takeImages_3 {g : qG} {X : qX} {Z : qZ} (hn : 0 ≤ zn Z) (hl : 0 ≤ zl Z) {n : Nat} : ∀ (f : Nat) (l0 : Nat) (l1 : Nat) (l2 : Nat) (l3 : Nat) (l4 : Int32) (M : PM), F_XProver_takeImages_3 n f l0 l1 l2 l3 l4 M = some (zr Z, zf Z) → EW Y_XProver_takeImages g X Z 3 [(0, .ref l0), (1, .ref l1), (2, .ref l2), (3, .ref l3), (4, .int l4)] [] M := by
  intro f
  induction f with
  | zero => intro l0 l1 l2 l3 l4 M h; rw [F_XProver_takeImages_3] at h; cases h
  | succ f ih =>
    intro l0 l1 l2 l3 l4 M h
    rw [F_XProver_takeImages_3] at h
    refine ew_iload d_XProver_takeImages_3 rfl ?_
    refine ew_aload_n 1 d_XProver_takeImages_5 rfl rfl ?_
    obtain ⟨v1, av1, bv1, h⟩ := gI_inv h
    refine ew_gI 1 5 d_XProver_takeImages_6 fl_XProver_54 av1 bv1 ?_
    refine ew_icmp_ge 39 d_XProver_takeImages_9 (by decide) (fun c2 => ?_) (fun c2 => ?_)
    · rw [if_pos c2] at h
      obtain ⟨hz, hm⟩ := Prod.mk.inj (Option.some.inj h)
      exact ew_return d_XProver_takeImages_39 rfl hz.symm hm.symm
    · rw [if_neg c2] at h
      refine ew_aload_n 2 d_XProver_takeImages_12 rfl rfl ?_
      refine ew_iload d_XProver_takeImages_13 rfl ?_
      obtain ⟨v3, av3, bv3, cv3, ev3, h⟩ := lI_inv h
      refine ew_lI d_XProver_takeImages_15 av3 bv3 cv3 ev3 ?_
      refine ew_iconst (-1) d_XProver_takeImages_16 (by decide) ?_
      refine ew_icmp_eq 33 d_XProver_takeImages_17 (by decide) (fun c4 => ?_) (fun c4 => ?_)
      · rw [if_pos c4] at h
        exact E_XProver_takeImages_33 hn hl ih h
      · rw [if_neg c4] at h
        refine ew_aload_n 3 d_XProver_takeImages_20 rfl rfl ?_
        refine ew_iload d_XProver_takeImages_21 rfl ?_
        refine ew_aload_n 0 d_XProver_takeImages_23 rfl rfl ?_
        obtain ⟨v5, av5, bv5, h⟩ := gR_inv h
        refine ew_gR 5 4 d_XProver_takeImages_24 fl_XProver_40 av5 bv5 ?_
        refine ew_aload_n 2 d_XProver_takeImages_27 rfl rfl ?_
        refine ew_iload d_XProver_takeImages_28 rfl ?_
        obtain ⟨v6, av6, bv6, cv6, ev6, h⟩ := lI_inv h
        refine ew_lI d_XProver_takeImages_30 av6 bv6 cv6 ev6 ?_
        obtain ⟨v7, av7, bv7, cv7, ev7, h⟩ := lI_inv h
        refine ew_lI d_XProver_takeImages_31 av7 bv7 cv7 ev7 ?_
        obtain ⟨M8, aM8, bM8, cM8, eM8, h⟩ := wI_inv h
        refine ew_wI d_XProver_takeImages_32 aM8 bM8 cM8 eM8 ?_
        exact E_XProver_takeImages_33 hn hl ih h
def F_XProver_takeImages (n : Nat) (l0 : Nat) (l1 : Nat) (l2 : Nat) (l3 : Nat) (M : PM) : qO :=
  F_XProver_takeImages_3 n n l0 l1 l2 l3 (0 : Int32) M
set_option maxHeartbeats 4000000 in
set_option maxRecDepth 100000 in
theorem E_XProver_takeImages {g : qG} {X : qX} {Z : qZ} (hn : 0 ≤ zn Z) (hl : 0 ≤ zl Z) {n : Nat} {l0 : Nat} {l1 : Nat} {l2 : Nat} {l3 : Nat} {M : PM} (h : F_XProver_takeImages n l0 l1 l2 l3 M = some (zr Z, zf Z)) : EW Y_XProver_takeImages g X Z 0 [(0, .ref l0), (1, .ref l1), (2, .ref l2), (3, .ref l3)] [] M := by
  unfold F_XProver_takeImages at h
  refine ew_iconst (0) d_XProver_takeImages_0 (by decide) ?_
  refine ew_istore (L' := [(0, .ref l0), (1, .ref l1), (2, .ref l2), (3, .ref l3), (4, .int (0 : Int32))]) [1, 2, 3, 4, 0] d_XProver_takeImages_1 (by decide) rfl ?_
  exact E_XProver_takeImages_3 hn hl n l0 l1 l2 l3 (0 : Int32) M h
theorem T_XProver_takeImages {n : Nat} {l0 : Nat} {l1 : Nat} {l2 : Nat} {l3 : Nat} {M Mf : PM} {res : qRs} (h : F_XProver_takeImages n l0 l1 l2 l3 M = some (res, Mf)) : CT Y_XProver_takeImages 0 0 [.ref l0, .ref l1, .ref l2, .ref l3] M res Mf :=
  CT_of (by decide) (Nat.le_of_ble_eq_true rfl) (qHd_ne (by decide)) (fun g X ad0 => E_XProver_takeImages (g := g) (X := X) (Z := (ad0, M, res, Mf, 0, 0)) (Nat.le_refl _) (Nat.le_refl _) h)
