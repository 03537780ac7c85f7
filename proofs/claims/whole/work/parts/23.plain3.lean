theorem d_XSearch_init_0 : decode Y_XSearch_init.2.1 0 = .ok (.aload_n 0, 1) := by decide +kernel
theorem d_XSearch_init_1 : decode Y_XSearch_init.2.1 1 = .ok (.invokespecial 3, 3) := by decide +kernel
theorem d_XSearch_init_4 : decode Y_XSearch_init.2.1 4 = .ok (.aload_n 0, 1) := by decide +kernel
theorem d_XSearch_init_5 : decode Y_XSearch_init.2.1 5 = .ok (.aload_n 1, 1) := by decide +kernel
theorem d_XSearch_init_6 : decode Y_XSearch_init.2.1 6 = .ok (.putfield 9, 3) := by decide +kernel
theorem d_XSearch_init_9 : decode Y_XSearch_init.2.1 9 = .ok (.aload_n 0, 1) := by decide +kernel
theorem d_XSearch_init_10 : decode Y_XSearch_init.2.1 10 = .ok (.aload_n 2, 1) := by decide +kernel
theorem d_XSearch_init_11 : decode Y_XSearch_init.2.1 11 = .ok (.putfield 15, 3) := by decide +kernel
theorem d_XSearch_init_14 : decode Y_XSearch_init.2.1 14 = .ok (.aload_n 0, 1) := by decide +kernel
theorem d_XSearch_init_15 : decode Y_XSearch_init.2.1 15 = .ok (.new 19, 3) := by decide +kernel
theorem d_XSearch_init_18 : decode Y_XSearch_init.2.1 18 = .ok (.dup, 1) := by decide +kernel
theorem d_XSearch_init_19 : decode Y_XSearch_init.2.1 19 = .ok (.aload_n 1, 1) := by decide +kernel
theorem d_XSearch_init_20 : decode Y_XSearch_init.2.1 20 = .ok (.invokespecial 21, 3) := by decide +kernel
theorem d_XSearch_init_23 : decode Y_XSearch_init.2.1 23 = .ok (.putfield 24, 3) := by decide +kernel
theorem d_XSearch_init_26 : decode Y_XSearch_init.2.1 26 = .ok (.aload_n 0, 1) := by decide +kernel
theorem d_XSearch_init_27 : decode Y_XSearch_init.2.1 27 = .ok (.bipush (6), 2) := by decide +kernel
theorem d_XSearch_init_29 : decode Y_XSearch_init.2.1 29 = .ok (.newarray .int, 2) := by decide +kernel
theorem d_XSearch_init_31 : decode Y_XSearch_init.2.1 31 = .ok (.putfield 28, 3) := by decide +kernel
theorem d_XSearch_init_34 : decode Y_XSearch_init.2.1 34 = .ok (.aload_n 0, 1) := by decide +kernel
theorem d_XSearch_init_35 : decode Y_XSearch_init.2.1 35 = .ok (.bipush (7), 2) := by decide +kernel
theorem d_XSearch_init_37 : decode Y_XSearch_init.2.1 37 = .ok (.newarray .int, 2) := by decide +kernel
theorem d_XSearch_init_39 : decode Y_XSearch_init.2.1 39 = .ok (.putfield 32, 3) := by decide +kernel
theorem d_XSearch_init_42 : decode Y_XSearch_init.2.1 42 = .ok (.aload_n 0, 1) := by decide +kernel
theorem d_XSearch_init_43 : decode Y_XSearch_init.2.1 43 = .ok (.bipush (7), 2) := by decide +kernel
theorem d_XSearch_init_45 : decode Y_XSearch_init.2.1 45 = .ok (.newarray .int, 2) := by decide +kernel
theorem d_XSearch_init_47 : decode Y_XSearch_init.2.1 47 = .ok (.putfield 35, 3) := by decide +kernel
theorem d_XSearch_init_50 : decode Y_XSearch_init.2.1 50 = .ok (.aload_n 0, 1) := by decide +kernel
theorem d_XSearch_init_51 : decode Y_XSearch_init.2.1 51 = .ok (.sipush (5732), 3) := by decide +kernel
theorem d_XSearch_init_54 : decode Y_XSearch_init.2.1 54 = .ok (.newarray .int, 2) := by decide +kernel
theorem d_XSearch_init_56 : decode Y_XSearch_init.2.1 56 = .ok (.putfield 38, 3) := by decide +kernel
theorem d_XSearch_init_59 : decode Y_XSearch_init.2.1 59 = .ok (.aload_n 0, 1) := by decide +kernel
theorem d_XSearch_init_60 : decode Y_XSearch_init.2.1 60 = .ok (.sipush (5732), 3) := by decide +kernel
theorem d_XSearch_init_63 : decode Y_XSearch_init.2.1 63 = .ok (.newarray .int, 2) := by decide +kernel
theorem d_XSearch_init_65 : decode Y_XSearch_init.2.1 65 = .ok (.putfield 41, 3) := by decide +kernel
theorem d_XSearch_init_68 : decode Y_XSearch_init.2.1 68 = .ok (.aload_n 0, 1) := by decide +kernel
theorem d_XSearch_init_69 : decode Y_XSearch_init.2.1 69 = .ok (.bipush (9), 2) := by decide +kernel
theorem d_XSearch_init_71 : decode Y_XSearch_init.2.1 71 = .ok (.newarray .int, 2) := by decide +kernel
theorem d_XSearch_init_73 : decode Y_XSearch_init.2.1 73 = .ok (.putfield 44, 3) := by decide +kernel
theorem d_XSearch_init_76 : decode Y_XSearch_init.2.1 76 = .ok (.aload_n 0, 1) := by decide +kernel
theorem d_XSearch_init_77 : decode Y_XSearch_init.2.1 77 = .ok (.bipush (7), 2) := by decide +kernel
theorem d_XSearch_init_79 : decode Y_XSearch_init.2.1 79 = .ok (.newarray .int, 2) := by decide +kernel
theorem d_XSearch_init_81 : decode Y_XSearch_init.2.1 81 = .ok (.putfield 47, 3) := by decide +kernel
theorem d_XSearch_init_84 : decode Y_XSearch_init.2.1 84 = .ok (.return_, 1) := by decide +kernel
def F_XSearch_init (n : Nat) (l0 : Nat) (l1 : Nat) (l2 : Nat) (M : PM) : qO :=
  pF 8 M l0 0 (.ref l1) (fun M1 =>
  pF 8 M1 l0 1 (.ref l2) (fun M2 =>
  mO 5 M2 (fun q3 M4 =>
  cV (F_XPlanes_init n q3 l1 M4) (fun M5 =>
  pF 8 M5 l0 2 (.ref q3) (fun M6 =>
  mA 0 M6 (6 : Int32) (fun q7 M8 =>
  pF 8 M8 l0 3 (.ref q7) (fun M9 =>
  mA 0 M9 (7 : Int32) (fun q10 M11 =>
  pF 8 M11 l0 4 (.ref q10) (fun M12 =>
  mA 0 M12 (7 : Int32) (fun q13 M14 =>
  pF 8 M14 l0 5 (.ref q13) (fun M15 =>
  mA 0 M15 (5732 : Int32) (fun q16 M17 =>
  pF 8 M17 l0 6 (.ref q16) (fun M18 =>
  mA 0 M18 (5732 : Int32) (fun q19 M20 =>
  pF 8 M20 l0 7 (.ref q19) (fun M21 =>
  mA 0 M21 (9 : Int32) (fun q22 M23 =>
  pF 8 M23 l0 8 (.ref q22) (fun M24 =>
  mA 0 M24 (7 : Int32) (fun q25 M26 =>
  pF 8 M26 l0 9 (.ref q25) (fun M27 =>
  some (.inl none, M27))))))))))))))))))))
set_option maxHeartbeats 4000000 in
set_option maxRecDepth 100000 in
theorem E_XSearch_init {g : qG} {X : qX} {Z : qZ} (hn : 2 ≤ zn Z) (hl : 61 ≤ zl Z) {n : Nat} {l0 : Nat} {l1 : Nat} {l2 : Nat} {M : PM} (h : F_XSearch_init n l0 l1 l2 M = some (zr Z, zf Z)) : EW Y_XSearch_init g X Z 0 [(0, .ref l0), (1, .ref l1), (2, .ref l2)] [] M := by
  unfold F_XSearch_init at h
  refine ew_aload_n 0 d_XSearch_init_0 rfl rfl ?_
  refine ew_objInit d_XSearch_init_1 ob_XSearch_3 (Nat.le_trans (Nat.le_of_ble_eq_true rfl) hn) (Nat.le_trans (Nat.le_of_ble_eq_true rfl) hl) ?_
  refine ew_aload_n 0 d_XSearch_init_4 rfl rfl ?_
  refine ew_aload_n 1 d_XSearch_init_5 rfl rfl ?_
  obtain ⟨M1, aM1, eM1, h⟩ := pF_inv h
  refine ew_pFF 8 0 d_XSearch_init_6 fl_XSearch_9 rfl rfl aM1 eM1 (fun ad => ⟨rfl, rfl⟩) ?_
  refine ew_aload_n 0 d_XSearch_init_9 rfl rfl ?_
  refine ew_aload_n 2 d_XSearch_init_10 rfl rfl ?_
  obtain ⟨M2, aM2, eM2, h⟩ := pF_inv h
  refine ew_pFF 8 1 d_XSearch_init_11 fl_XSearch_15 rfl rfl aM2 eM2 (fun ad => ⟨rfl, rfl⟩) ?_
  refine ew_aload_n 0 d_XSearch_init_14 rfl rfl ?_
  obtain ⟨q3, M4, eq3, fq3, h⟩ := mO_inv h
  refine ew_mO 5 d_XSearch_init_15 nw_XSearch_19 eq3 fq3 ?_
  refine ew_dup d_XSearch_init_18 rfl ?_
  refine ew_aload_n 1 d_XSearch_init_19 rfl rfl ?_
  obtain ⟨M5, hM5, h⟩ := cV_inv h
  refine ew_callI [.ref l1] d_XSearch_init_20 ci_XSearch_21 (T_XPlanes_init hM5) (Nat.le_trans (Nat.le_of_ble_eq_true rfl) hn) (Nat.le_trans (Nat.le_of_ble_eq_true rfl) hl) (Nat.le_of_ble_eq_true rfl) rfl ?_
  obtain ⟨M6, aM6, eM6, h⟩ := pF_inv h
  refine ew_pFF 8 2 d_XSearch_init_23 fl_XSearch_24 rfl rfl aM6 eM6 (fun ad => ⟨rfl, rfl⟩) ?_
  refine ew_aload_n 0 d_XSearch_init_26 rfl rfl ?_
  refine ew_bipush (6) d_XSearch_init_27 (by decide +kernel) ?_
  obtain ⟨q7, M8, aq7, bq7, eq7, fq7, h⟩ := mA_inv h
  refine ew_mA0 d_XSearch_init_29 aq7 bq7 eq7 fq7 ?_
  obtain ⟨M9, aM9, eM9, h⟩ := pF_inv h
  refine ew_pFF 8 3 d_XSearch_init_31 fl_XSearch_28 rfl rfl aM9 eM9 (fun ad => ⟨rfl, rfl⟩) ?_
  refine ew_aload_n 0 d_XSearch_init_34 rfl rfl ?_
  refine ew_bipush (7) d_XSearch_init_35 (by decide +kernel) ?_
  obtain ⟨q10, M11, aq10, bq10, eq10, fq10, h⟩ := mA_inv h
  refine ew_mA0 d_XSearch_init_37 aq10 bq10 eq10 fq10 ?_
  obtain ⟨M12, aM12, eM12, h⟩ := pF_inv h
  refine ew_pFF 8 4 d_XSearch_init_39 fl_XSearch_32 rfl rfl aM12 eM12 (fun ad => ⟨rfl, rfl⟩) ?_
  refine ew_aload_n 0 d_XSearch_init_42 rfl rfl ?_
  refine ew_bipush (7) d_XSearch_init_43 (by decide +kernel) ?_
  obtain ⟨q13, M14, aq13, bq13, eq13, fq13, h⟩ := mA_inv h
  refine ew_mA0 d_XSearch_init_45 aq13 bq13 eq13 fq13 ?_
  obtain ⟨M15, aM15, eM15, h⟩ := pF_inv h
  refine ew_pFF 8 5 d_XSearch_init_47 fl_XSearch_35 rfl rfl aM15 eM15 (fun ad => ⟨rfl, rfl⟩) ?_
  refine ew_aload_n 0 d_XSearch_init_50 rfl rfl ?_
  refine ew_sipush (5732) d_XSearch_init_51 (by decide +kernel) ?_
  obtain ⟨q16, M17, aq16, bq16, eq16, fq16, h⟩ := mA_inv h
  refine ew_mA0 d_XSearch_init_54 aq16 bq16 eq16 fq16 ?_
  obtain ⟨M18, aM18, eM18, h⟩ := pF_inv h
  refine ew_pFF 8 6 d_XSearch_init_56 fl_XSearch_38 rfl rfl aM18 eM18 (fun ad => ⟨rfl, rfl⟩) ?_
  refine ew_aload_n 0 d_XSearch_init_59 rfl rfl ?_
  refine ew_sipush (5732) d_XSearch_init_60 (by decide +kernel) ?_
  obtain ⟨q19, M20, aq19, bq19, eq19, fq19, h⟩ := mA_inv h
  refine ew_mA0 d_XSearch_init_63 aq19 bq19 eq19 fq19 ?_
  obtain ⟨M21, aM21, eM21, h⟩ := pF_inv h
  refine ew_pFF 8 7 d_XSearch_init_65 fl_XSearch_41 rfl rfl aM21 eM21 (fun ad => ⟨rfl, rfl⟩) ?_
  refine ew_aload_n 0 d_XSearch_init_68 rfl rfl ?_
  refine ew_bipush (9) d_XSearch_init_69 (by decide +kernel) ?_
  obtain ⟨q22, M23, aq22, bq22, eq22, fq22, h⟩ := mA_inv h
  refine ew_mA0 d_XSearch_init_71 aq22 bq22 eq22 fq22 ?_
  obtain ⟨M24, aM24, eM24, h⟩ := pF_inv h
  refine ew_pFF 8 8 d_XSearch_init_73 fl_XSearch_44 rfl rfl aM24 eM24 (fun ad => ⟨rfl, rfl⟩) ?_
  refine ew_aload_n 0 d_XSearch_init_76 rfl rfl ?_
  refine ew_bipush (7) d_XSearch_init_77 (by decide +kernel) ?_
  obtain ⟨q25, M26, aq25, bq25, eq25, fq25, h⟩ := mA_inv h
  refine ew_mA0 d_XSearch_init_79 aq25 bq25 eq25 fq25 ?_
  obtain ⟨M27, aM27, eM27, h⟩ := pF_inv h
  refine ew_pFF 8 9 d_XSearch_init_81 fl_XSearch_47 rfl rfl aM27 eM27 (fun ad => ⟨rfl, rfl⟩) ?_
  obtain ⟨hz, hm⟩ := Prod.mk.inj (Option.some.inj h)
  exact ew_return d_XSearch_init_84 rfl hz.symm hm.symm
theorem T_XSearch_init {n : Nat} {l0 : Nat} {l1 : Nat} {l2 : Nat} {M Mf : PM} {res : qRs} (h : F_XSearch_init n l0 l1 l2 M = some (res, Mf)) : CT Y_XSearch_init 2 61 [.ref l0, .ref l1, .ref l2] M res Mf :=
  CT_of (by decide) (Nat.le_of_ble_eq_true rfl) (qHd_ne (by decide)) (fun g X ad0 => E_XSearch_init (g := g) (X := X) (Z := (ad0, M, res, Mf, 2, 61)) (Nat.le_refl _) (Nat.le_refl _) h)
theorem d_XProver_init_0 : decode Y_XProver_init.2.1 0 = .ok (.aload_n 0, 1) := by decide +kernel
theorem d_XProver_init_1 : decode Y_XProver_init.2.1 1 = .ok (.invokespecial 3, 3) := by decide +kernel
theorem d_XProver_init_4 : decode Y_XProver_init.2.1 4 = .ok (.aload_n 0, 1) := by decide +kernel
theorem d_XProver_init_5 : decode Y_XProver_init.2.1 5 = .ok (.new 9, 3) := by decide +kernel
theorem d_XProver_init_8 : decode Y_XProver_init.2.1 8 = .ok (.dup, 1) := by decide +kernel
theorem d_XProver_init_9 : decode Y_XProver_init.2.1 9 = .ok (.sipush (5732), 3) := by decide +kernel
theorem d_XProver_init_12 : decode Y_XProver_init.2.1 12 = .ok (.sipush (2048), 3) := by decide +kernel
theorem d_XProver_init_15 : decode Y_XProver_init.2.1 15 = .ok (.invokespecial 11, 3) := by decide +kernel
theorem d_XProver_init_18 : decode Y_XProver_init.2.1 18 = .ok (.putfield 14, 3) := by decide +kernel
theorem d_XProver_init_21 : decode Y_XProver_init.2.1 21 = .ok (.aload_n 0, 1) := by decide +kernel
theorem d_XProver_init_22 : decode Y_XProver_init.2.1 22 = .ok (.new 20, 3) := by decide +kernel
theorem d_XProver_init_25 : decode Y_XProver_init.2.1 25 = .ok (.dup, 1) := by decide +kernel
theorem d_XProver_init_26 : decode Y_XProver_init.2.1 26 = .ok (.invokespecial 22, 3) := by decide +kernel
theorem d_XProver_init_29 : decode Y_XProver_init.2.1 29 = .ok (.putfield 23, 3) := by decide +kernel
theorem d_XProver_init_32 : decode Y_XProver_init.2.1 32 = .ok (.aload_n 0, 1) := by decide +kernel
theorem d_XProver_init_33 : decode Y_XProver_init.2.1 33 = .ok (.new 27, 3) := by decide +kernel
theorem d_XProver_init_36 : decode Y_XProver_init.2.1 36 = .ok (.dup, 1) := by decide +kernel
theorem d_XProver_init_37 : decode Y_XProver_init.2.1 37 = .ok (.aload_n 0, 1) := by decide +kernel
theorem d_XProver_init_38 : decode Y_XProver_init.2.1 38 = .ok (.getfield 14, 3) := by decide +kernel
theorem d_XProver_init_41 : decode Y_XProver_init.2.1 41 = .ok (.aload_n 0, 1) := by decide +kernel
theorem d_XProver_init_42 : decode Y_XProver_init.2.1 42 = .ok (.getfield 23, 3) := by decide +kernel
theorem d_XProver_init_45 : decode Y_XProver_init.2.1 45 = .ok (.invokespecial 29, 3) := by decide +kernel
theorem d_XProver_init_48 : decode Y_XProver_init.2.1 48 = .ok (.putfield 32, 3) := by decide +kernel
theorem d_XProver_init_51 : decode Y_XProver_init.2.1 51 = .ok (.aload_n 0, 1) := by decide +kernel
theorem d_XProver_init_52 : decode Y_XProver_init.2.1 52 = .ok (.sipush (5732), 3) := by decide +kernel
theorem d_XProver_init_55 : decode Y_XProver_init.2.1 55 = .ok (.newarray .boolean, 2) := by decide +kernel
theorem d_XProver_init_57 : decode Y_XProver_init.2.1 57 = .ok (.putfield 36, 3) := by decide +kernel
theorem d_XProver_init_60 : decode Y_XProver_init.2.1 60 = .ok (.aload_n 0, 1) := by decide +kernel
theorem d_XProver_init_61 : decode Y_XProver_init.2.1 61 = .ok (.sipush (300), 3) := by decide +kernel
theorem d_XProver_init_64 : decode Y_XProver_init.2.1 64 = .ok (.newarray .int, 2) := by decide +kernel
theorem d_XProver_init_66 : decode Y_XProver_init.2.1 66 = .ok (.putfield 40, 3) := by decide +kernel
theorem d_XProver_init_69 : decode Y_XProver_init.2.1 69 = .ok (.aload_n 0, 1) := by decide +kernel
theorem d_XProver_init_70 : decode Y_XProver_init.2.1 70 = .ok (.bipush (16), 2) := by decide +kernel
theorem d_XProver_init_72 : decode Y_XProver_init.2.1 72 = .ok (.newarray .int, 2) := by decide +kernel
theorem d_XProver_init_74 : decode Y_XProver_init.2.1 74 = .ok (.putfield 44, 3) := by decide +kernel
theorem d_XProver_init_77 : decode Y_XProver_init.2.1 77 = .ok (.aload_n 0, 1) := by decide +kernel
theorem d_XProver_init_78 : decode Y_XProver_init.2.1 78 = .ok (.bipush (16), 2) := by decide +kernel
theorem d_XProver_init_80 : decode Y_XProver_init.2.1 80 = .ok (.newarray .int, 2) := by decide +kernel
theorem d_XProver_init_82 : decode Y_XProver_init.2.1 82 = .ok (.putfield 47, 3) := by decide +kernel
theorem d_XProver_init_85 : decode Y_XProver_init.2.1 85 = .ok (.return_, 1) := by decide +kernel
def F_XProver_init (n : Nat) (l0 : Nat) (M : PM) : qO :=
  mO 3 M (fun q1 M2 =>
  cV (F_XNodes_init n q1 (5732 : Int32) (2048 : Int32) M2) (fun M3 =>
  pF 6 M3 l0 0 (.ref q1) (fun M4 =>
  mO 7 M4 (fun q5 M6 =>
  cV (F_XQuestion_init n q5 M6) (fun M7 =>
  pF 6 M7 l0 1 (.ref q5) (fun M8 =>
  mO 8 M8 (fun q9 M10 =>
  gR 6 M10 l0 0 (fun v11 =>
  gR 6 M10 l0 1 (fun v12 =>
  cV (F_XSearch_init n q9 v11 v12 M10) (fun M13 =>
  pF 6 M13 l0 2 (.ref q9) (fun M14 =>
  mA 1 M14 (5732 : Int32) (fun q15 M16 =>
  pF 6 M16 l0 3 (.ref q15) (fun M17 =>
  mA 0 M17 (300 : Int32) (fun q18 M19 =>
  pF 6 M19 l0 4 (.ref q18) (fun M20 =>
  mA 0 M20 (16 : Int32) (fun q21 M22 =>
  pF 6 M22 l0 5 (.ref q21) (fun M23 =>
  mA 0 M23 (16 : Int32) (fun q24 M25 =>
  pF 6 M25 l0 6 (.ref q24) (fun M26 =>
  some (.inl none, M26))))))))))))))))))))
set_option maxHeartbeats 4000000 in
set_option maxRecDepth 100000 in
theorem E_XProver_init {g : qG} {X : qX} {Z : qZ} (hn : 3 ≤ zn Z) (hl : 83 ≤ zl Z) {n : Nat} {l0 : Nat} {M : PM} (h : F_XProver_init n l0 M = some (zr Z, zf Z)) : EW Y_XProver_init g X Z 0 [(0, .ref l0)] [] M := by
  unfold F_XProver_init at h
  refine ew_aload_n 0 d_XProver_init_0 rfl rfl ?_
  refine ew_objInit d_XProver_init_1 ob_XProver_3 (Nat.le_trans (Nat.le_of_ble_eq_true rfl) hn) (Nat.le_trans (Nat.le_of_ble_eq_true rfl) hl) ?_
  refine ew_aload_n 0 d_XProver_init_4 rfl rfl ?_
  obtain ⟨q1, M2, eq1, fq1, h⟩ := mO_inv h
  refine ew_mO 3 d_XProver_init_5 nw_XProver_9 eq1 fq1 ?_
  refine ew_dup d_XProver_init_8 rfl ?_
  refine ew_sipush (5732) d_XProver_init_9 (by decide +kernel) ?_
  refine ew_sipush (2048) d_XProver_init_12 (by decide +kernel) ?_
  obtain ⟨M3, hM3, h⟩ := cV_inv h
  refine ew_callI [.int (5732 : Int32), .int (2048 : Int32)] d_XProver_init_15 ci_XProver_11 (T_XNodes_init hM3) (Nat.le_trans (Nat.le_of_ble_eq_true rfl) hn) (Nat.le_trans (Nat.le_of_ble_eq_true rfl) hl) (Nat.le_of_ble_eq_true rfl) rfl ?_
  obtain ⟨M4, aM4, eM4, h⟩ := pF_inv h
  refine ew_pFF 6 0 d_XProver_init_18 fl_XProver_14 rfl rfl aM4 eM4 (fun ad => ⟨rfl, rfl⟩) ?_
  refine ew_aload_n 0 d_XProver_init_21 rfl rfl ?_
  obtain ⟨q5, M6, eq5, fq5, h⟩ := mO_inv h
  refine ew_mO 7 d_XProver_init_22 nw_XProver_20 eq5 fq5 ?_
  refine ew_dup d_XProver_init_25 rfl ?_
  obtain ⟨M7, hM7, h⟩ := cV_inv h
  refine ew_callI [] d_XProver_init_26 ci_XProver_22 (T_XQuestion_init hM7) (Nat.le_trans (Nat.le_of_ble_eq_true rfl) hn) (Nat.le_trans (Nat.le_of_ble_eq_true rfl) hl) (Nat.le_of_ble_eq_true rfl) rfl ?_
  obtain ⟨M8, aM8, eM8, h⟩ := pF_inv h
  refine ew_pFF 6 1 d_XProver_init_29 fl_XProver_23 rfl rfl aM8 eM8 (fun ad => ⟨rfl, rfl⟩) ?_
  refine ew_aload_n 0 d_XProver_init_32 rfl rfl ?_
  obtain ⟨q9, M10, eq9, fq9, h⟩ := mO_inv h
  refine ew_mO 8 d_XProver_init_33 nw_XProver_27 eq9 fq9 ?_
  refine ew_dup d_XProver_init_36 rfl ?_
  refine ew_aload_n 0 d_XProver_init_37 rfl rfl ?_
  obtain ⟨v11, av11, bv11, h⟩ := gR_inv h
  refine ew_gR 6 0 d_XProver_init_38 fl_XProver_14 av11 bv11 ?_
  refine ew_aload_n 0 d_XProver_init_41 rfl rfl ?_
  obtain ⟨v12, av12, bv12, h⟩ := gR_inv h
  refine ew_gR 6 1 d_XProver_init_42 fl_XProver_23 av12 bv12 ?_
  obtain ⟨M13, hM13, h⟩ := cV_inv h
  refine ew_callI [.ref v11, .ref v12] d_XProver_init_45 ci_XProver_29 (T_XSearch_init hM13) (Nat.le_trans (Nat.le_of_ble_eq_true rfl) hn) (Nat.le_trans (Nat.le_of_ble_eq_true rfl) hl) (Nat.le_of_ble_eq_true rfl) rfl ?_
  obtain ⟨M14, aM14, eM14, h⟩ := pF_inv h
  refine ew_pFF 6 2 d_XProver_init_48 fl_XProver_32 rfl rfl aM14 eM14 (fun ad => ⟨rfl, rfl⟩) ?_
  refine ew_aload_n 0 d_XProver_init_51 rfl rfl ?_
  refine ew_sipush (5732) d_XProver_init_52 (by decide +kernel) ?_
  obtain ⟨q15, M16, aq15, bq15, eq15, fq15, h⟩ := mA_inv h
  refine ew_mA1 d_XProver_init_55 aq15 bq15 eq15 fq15 ?_
  obtain ⟨M17, aM17, eM17, h⟩ := pF_inv h
  refine ew_pFF 6 3 d_XProver_init_57 fl_XProver_36 rfl rfl aM17 eM17 (fun ad => ⟨rfl, rfl⟩) ?_
  refine ew_aload_n 0 d_XProver_init_60 rfl rfl ?_
  refine ew_sipush (300) d_XProver_init_61 (by decide +kernel) ?_
  obtain ⟨q18, M19, aq18, bq18, eq18, fq18, h⟩ := mA_inv h
  refine ew_mA0 d_XProver_init_64 aq18 bq18 eq18 fq18 ?_
  obtain ⟨M20, aM20, eM20, h⟩ := pF_inv h
  refine ew_pFF 6 4 d_XProver_init_66 fl_XProver_40 rfl rfl aM20 eM20 (fun ad => ⟨rfl, rfl⟩) ?_
  refine ew_aload_n 0 d_XProver_init_69 rfl rfl ?_
  refine ew_bipush (16) d_XProver_init_70 (by decide +kernel) ?_
  obtain ⟨q21, M22, aq21, bq21, eq21, fq21, h⟩ := mA_inv h
  refine ew_mA0 d_XProver_init_72 aq21 bq21 eq21 fq21 ?_
  obtain ⟨M23, aM23, eM23, h⟩ := pF_inv h
  refine ew_pFF 6 5 d_XProver_init_74 fl_XProver_44 rfl rfl aM23 eM23 (fun ad => ⟨rfl, rfl⟩) ?_
  refine ew_aload_n 0 d_XProver_init_77 rfl rfl ?_
  refine ew_bipush (16) d_XProver_init_78 (by decide +kernel) ?_
  obtain ⟨q24, M25, aq24, bq24, eq24, fq24, h⟩ := mA_inv h
  refine ew_mA0 d_XProver_init_80 aq24 bq24 eq24 fq24 ?_
  obtain ⟨M26, aM26, eM26, h⟩ := pF_inv h
  refine ew_pFF 6 6 d_XProver_init_82 fl_XProver_47 rfl rfl aM26 eM26 (fun ad => ⟨rfl, rfl⟩) ?_
  obtain ⟨hz, hm⟩ := Prod.mk.inj (Option.some.inj h)
  exact ew_return d_XProver_init_85 rfl hz.symm hm.symm
theorem T_XProver_init {n : Nat} {l0 : Nat} {M Mf : PM} {res : qRs} (h : F_XProver_init n l0 M = some (res, Mf)) : CT Y_XProver_init 3 83 [.ref l0] M res Mf :=
  CT_of (by decide) (Nat.le_of_ble_eq_true rfl) (qHd_ne (by decide)) (fun g X ad0 => E_XProver_init (g := g) (X := X) (Z := (ad0, M, res, Mf, 3, 83)) (Nat.le_refl _) (Nat.le_refl _) h)
theorem d_XQuestion_begin_0 : decode Y_XQuestion_begin.2.1 0 = .ok (.aload_n 0, 1) := by decide +kernel
theorem d_XQuestion_begin_1 : decode Y_XQuestion_begin.2.1 1 = .ok (.iconst 0, 1) := by decide +kernel
theorem d_XQuestion_begin_2 : decode Y_XQuestion_begin.2.1 2 = .ok (.putfield 21, 3) := by decide +kernel
theorem d_XQuestion_begin_5 : decode Y_XQuestion_begin.2.1 5 = .ok (.aload_n 0, 1) := by decide +kernel
theorem d_XQuestion_begin_6 : decode Y_XQuestion_begin.2.1 6 = .ok (.iconst 0, 1) := by decide +kernel
theorem d_XQuestion_begin_7 : decode Y_XQuestion_begin.2.1 7 = .ok (.putfield 25, 3) := by decide +kernel
theorem d_XQuestion_begin_10 : decode Y_XQuestion_begin.2.1 10 = .ok (.return_, 1) := by decide +kernel
def F_XQuestion_begin (n : Nat) (l0 : Nat) (M : PM) : qO :=
  pF 7 M l0 3 (.int (0 : Int32)) (fun M1 =>
  pF 7 M1 l0 4 (.int (0 : Int32)) (fun M2 =>
  some (.inl none, M2)))
set_option maxHeartbeats 4000000 in
set_option maxRecDepth 100000 in
theorem E_XQuestion_begin {g : qG} {X : qX} {Z : qZ} (hn : 0 ≤ zn Z) (hl : 0 ≤ zl Z) {n : Nat} {l0 : Nat} {M : PM} (h : F_XQuestion_begin n l0 M = some (zr Z, zf Z)) : EW Y_XQuestion_begin g X Z 0 [(0, .ref l0)] [] M := by
  unfold F_XQuestion_begin at h
  refine ew_aload_n 0 d_XQuestion_begin_0 rfl rfl ?_
  refine ew_iconst (0) d_XQuestion_begin_1 (by decide) ?_
  obtain ⟨M1, aM1, eM1, h⟩ := pF_inv h
  refine ew_pF 7 3 d_XQuestion_begin_2 fl_XQuestion_21 aM1 eM1 (fun ad => ⟨rfl, rfl⟩) ?_
  refine ew_aload_n 0 d_XQuestion_begin_5 rfl rfl ?_
  refine ew_iconst (0) d_XQuestion_begin_6 (by decide) ?_
  obtain ⟨M2, aM2, eM2, h⟩ := pF_inv h
  refine ew_pF 7 4 d_XQuestion_begin_7 fl_XQuestion_25 aM2 eM2 (fun ad => ⟨rfl, rfl⟩) ?_
  obtain ⟨hz, hm⟩ := Prod.mk.inj (Option.some.inj h)
  exact ew_return d_XQuestion_begin_10 rfl hz.symm hm.symm
theorem T_XQuestion_begin {n : Nat} {l0 : Nat} {M Mf : PM} {res : qRs} (h : F_XQuestion_begin n l0 M = some (res, Mf)) : CT Y_XQuestion_begin 0 0 [.ref l0] M res Mf :=
  CT_of (by decide) (Nat.le_of_ble_eq_true rfl) (qHd_ne (by decide)) (fun g X ad0 => E_XQuestion_begin (g := g) (X := X) (Z := (ad0, M, res, Mf, 0, 0)) (Nat.le_refl _) (Nat.le_refl _) h)
theorem d_XProver_putIn_0 : decode Y_XProver_putIn.2.1 0 = .ok (.aload_n 0, 1) := by decide +kernel
theorem d_XProver_putIn_1 : decode Y_XProver_putIn.2.1 1 = .ok (.getfield 40, 3) := by decide +kernel
theorem d_XProver_putIn_4 : decode Y_XProver_putIn.2.1 4 = .ok (.iconst 0, 1) := by decide +kernel
theorem d_XProver_putIn_5 : decode Y_XProver_putIn.2.1 5 = .ok (.iconst 0, 1) := by decide +kernel
theorem d_XProver_putIn_6 : decode Y_XProver_putIn.2.1 6 = .ok (.iastore, 1) := by decide +kernel
theorem d_XProver_putIn_7 : decode Y_XProver_putIn.2.1 7 = .ok (.aload_n 0, 1) := by decide +kernel
theorem d_XProver_putIn_8 : decode Y_XProver_putIn.2.1 8 = .ok (.getfield 40, 3) := by decide +kernel
theorem d_XProver_putIn_11 : decode Y_XProver_putIn.2.1 11 = .ok (.iconst 1, 1) := by decide +kernel
theorem d_XProver_putIn_12 : decode Y_XProver_putIn.2.1 12 = .ok (.iconst 1, 1) := by decide +kernel
theorem d_XProver_putIn_13 : decode Y_XProver_putIn.2.1 13 = .ok (.iastore, 1) := by decide +kernel
theorem d_XProver_putIn_14 : decode Y_XProver_putIn.2.1 14 = .ok (.aload_n 0, 1) := by decide +kernel
theorem d_XProver_putIn_15 : decode Y_XProver_putIn.2.1 15 = .ok (.getfield 40, 3) := by decide +kernel
theorem d_XProver_putIn_18 : decode Y_XProver_putIn.2.1 18 = .ok (.iconst 2, 1) := by decide +kernel
theorem d_XProver_putIn_19 : decode Y_XProver_putIn.2.1 19 = .ok (.iload_n 3, 1) := by decide +kernel
theorem d_XProver_putIn_20 : decode Y_XProver_putIn.2.1 20 = .ok (.iastore, 1) := by decide +kernel
theorem d_XProver_putIn_21 : decode Y_XProver_putIn.2.1 21 = .ok (.iconst 0, 1) := by decide +kernel
theorem d_XProver_putIn_22 : decode Y_XProver_putIn.2.1 22 = .ok (.istore 4, 2) := by decide +kernel
theorem d_XProver_putIn_24 : decode Y_XProver_putIn.2.1 24 = .ok (.iload 4, 2) := by decide +kernel
theorem d_XProver_putIn_26 : decode Y_XProver_putIn.2.1 26 = .ok (.aload_n 1, 1) := by decide +kernel
theorem d_XProver_putIn_27 : decode Y_XProver_putIn.2.1 27 = .ok (.getfield 50, 3) := by decide +kernel
theorem d_XProver_putIn_30 : decode Y_XProver_putIn.2.1 30 = .ok (.if_icmp .ge (25), 3) := by decide +kernel
theorem d_XProver_putIn_33 : decode Y_XProver_putIn.2.1 33 = .ok (.aload_n 0, 1) := by decide +kernel
theorem d_XProver_putIn_34 : decode Y_XProver_putIn.2.1 34 = .ok (.getfield 40, 3) := by decide +kernel
theorem d_XProver_putIn_37 : decode Y_XProver_putIn.2.1 37 = .ok (.aload_n 1, 1) := by decide +kernel
theorem d_XProver_putIn_38 : decode Y_XProver_putIn.2.1 38 = .ok (.getfield 115, 3) := by decide +kernel
theorem d_XProver_putIn_41 : decode Y_XProver_putIn.2.1 41 = .ok (.iload 4, 2) := by decide +kernel
theorem d_XProver_putIn_43 : decode Y_XProver_putIn.2.1 43 = .ok (.iaload, 1) := by decide +kernel
theorem d_XProver_putIn_44 : decode Y_XProver_putIn.2.1 44 = .ok (.aload_n 2, 1) := by decide +kernel
theorem d_XProver_putIn_45 : decode Y_XProver_putIn.2.1 45 = .ok (.iload 4, 2) := by decide +kernel
theorem d_XProver_putIn_47 : decode Y_XProver_putIn.2.1 47 = .ok (.iaload, 1) := by decide +kernel
theorem d_XProver_putIn_48 : decode Y_XProver_putIn.2.1 48 = .ok (.iastore, 1) := by decide +kernel
theorem d_XProver_putIn_49 : decode Y_XProver_putIn.2.1 49 = .ok (.iinc 4 (1), 3) := by decide +kernel
theorem d_XProver_putIn_52 : decode Y_XProver_putIn.2.1 52 = .ok (.goto (-28), 3) := by decide +kernel
theorem d_XProver_putIn_55 : decode Y_XProver_putIn.2.1 55 = .ok (.return_, 1) := by decide +kernel
def F_XProver_putIn_24 (n : Nat) : Nat → Nat → Nat → Nat → Int32 → PM → qO
  | 0, _, _, _, _, _ => none
  | f + 1, l0, l1, l2, l4, M =>
    gI 2 M l1 6 (fun v1 =>
    if v1 ≤ l4 then
      some (.inl none, M)
    else
      gR 6 M l0 4 (fun v3 =>
      gR 2 M l1 1 (fun v4 =>
      lI M v4 l4 (fun v5 =>
      lI M l2 l4 (fun v6 =>
      wI M v3 v5 v6 (fun M7 =>
      bI (l4 + (1 : Int32)) (fun v8 =>
      (F_XProver_putIn_24 n f) l0 l1 l2 v8 M7)))))))
set_option maxHeartbeats 4000000 in
set_option maxRecDepth 100000 in
theorem E_XProver_putIn_24 {g : qG} {X : qX} {Z : qZ} (hn : 0 ≤ zn Z) (hl : 0 ≤ zl Z) {n : Nat} : ∀ (f : Nat) (l0 : Nat) (l1 : Nat) (l2 : Nat) (l4 : Int32) (M : PM), F_XProver_putIn_24 n f l0 l1 l2 l4 M = some (zr Z, zf Z) → EW Y_XProver_putIn g X Z 24 [(0, .ref l0), (1, .ref l1), (2, .ref l2), (4, .int l4)] [] M := by
  intro f
  induction f with
  | zero => intro l0 l1 l2 l4 M h; rw [F_XProver_putIn_24] at h; cases h
  | succ f ih =>
    intro l0 l1 l2 l4 M h
    rw [F_XProver_putIn_24] at h
    refine ew_iload d_XProver_putIn_24 rfl ?_
    refine ew_aload_n 1 d_XProver_putIn_26 rfl rfl ?_
    obtain ⟨v1, av1, bv1, h⟩ := gI_inv h
    refine ew_gI 2 6 d_XProver_putIn_27 fl_XProver_50 av1 bv1 ?_
    refine ew_icmp_ge 55 d_XProver_putIn_30 (by decide) (fun c2 => ?_) (fun c2 => ?_)
    · rw [if_pos c2] at h
      obtain ⟨hz, hm⟩ := Prod.mk.inj (Option.some.inj h)
      exact ew_return d_XProver_putIn_55 rfl hz.symm hm.symm
    · rw [if_neg c2] at h
      refine ew_aload_n 0 d_XProver_putIn_33 rfl rfl ?_
      obtain ⟨v3, av3, bv3, h⟩ := gR_inv h
      refine ew_gR 6 4 d_XProver_putIn_34 fl_XProver_40 av3 bv3 ?_
      refine ew_aload_n 1 d_XProver_putIn_37 rfl rfl ?_
      obtain ⟨v4, av4, bv4, h⟩ := gR_inv h
      refine ew_gR 2 1 d_XProver_putIn_38 fl_XProver_115 av4 bv4 ?_
      refine ew_iload d_XProver_putIn_41 rfl ?_
      obtain ⟨v5, av5, bv5, cv5, ev5, h⟩ := lI_inv h
      refine ew_lI d_XProver_putIn_43 av5 bv5 cv5 ev5 ?_
      refine ew_aload_n 2 d_XProver_putIn_44 rfl rfl ?_
      refine ew_iload d_XProver_putIn_45 rfl ?_
      obtain ⟨v6, av6, bv6, cv6, ev6, h⟩ := lI_inv h
      refine ew_lI d_XProver_putIn_47 av6 bv6 cv6 ev6 ?_
      obtain ⟨M7, aM7, bM7, cM7, eM7, h⟩ := wI_inv h
      refine ew_wI d_XProver_putIn_48 aM7 bM7 cM7 eM7 ?_
      obtain ⟨v8, ev8, h⟩ := bI_inv h
      refine ew_iinc (L' := [(0, .ref l0), (1, .ref l1), (2, .ref l2), (4, .int v8)]) v8 [1, 2, 3, 0] d_XProver_putIn_49 rfl (by rw [ev8]; rfl) (by decide) rfl ?_
      refine ew_goto 24 d_XProver_putIn_52 (by decide) ?_
      exact ih l0 l1 l2 v8 M7 h
def F_XProver_putIn (n : Nat) (l0 : Nat) (l1 : Nat) (l2 : Nat) (l3 : Int32) (M : PM) : qO :=
  gR 6 M l0 4 (fun v1 =>
  wI M v1 (0 : Int32) (0 : Int32) (fun M2 =>
  gR 6 M2 l0 4 (fun v3 =>
  wI M2 v3 (1 : Int32) (1 : Int32) (fun M4 =>
  gR 6 M4 l0 4 (fun v5 =>
  wI M4 v5 (2 : Int32) l3 (fun M6 =>
  F_XProver_putIn_24 n n l0 l1 l2 (0 : Int32) M6))))))
set_option maxHeartbeats 4000000 in
set_option maxRecDepth 100000 in
theorem E_XProver_putIn {g : qG} {X : qX} {Z : qZ} (hn : 0 ≤ zn Z) (hl : 0 ≤ zl Z) {n : Nat} {l0 : Nat} {l1 : Nat} {l2 : Nat} {l3 : Int32} {M : PM} (h : F_XProver_putIn n l0 l1 l2 l3 M = some (zr Z, zf Z)) : EW Y_XProver_putIn g X Z 0 [(0, .ref l0), (1, .ref l1), (2, .ref l2), (3, .int l3)] [] M := by
  unfold F_XProver_putIn at h
  refine ew_aload_n 0 d_XProver_putIn_0 rfl rfl ?_
  obtain ⟨v1, av1, bv1, h⟩ := gR_inv h
  refine ew_gR 6 4 d_XProver_putIn_1 fl_XProver_40 av1 bv1 ?_
  refine ew_iconst (0) d_XProver_putIn_4 (by decide) ?_
  refine ew_iconst (0) d_XProver_putIn_5 (by decide) ?_
  obtain ⟨M2, aM2, bM2, cM2, eM2, h⟩ := wI_inv h
  refine ew_wI d_XProver_putIn_6 aM2 bM2 cM2 eM2 ?_
  refine ew_aload_n 0 d_XProver_putIn_7 rfl rfl ?_
  obtain ⟨v3, av3, bv3, h⟩ := gR_inv h
  refine ew_gR 6 4 d_XProver_putIn_8 fl_XProver_40 av3 bv3 ?_
  refine ew_iconst (1) d_XProver_putIn_11 (by decide) ?_
  refine ew_iconst (1) d_XProver_putIn_12 (by decide) ?_
  obtain ⟨M4, aM4, bM4, cM4, eM4, h⟩ := wI_inv h
  refine ew_wI d_XProver_putIn_13 aM4 bM4 cM4 eM4 ?_
  refine ew_aload_n 0 d_XProver_putIn_14 rfl rfl ?_
  obtain ⟨v5, av5, bv5, h⟩ := gR_inv h
  refine ew_gR 6 4 d_XProver_putIn_15 fl_XProver_40 av5 bv5 ?_
  refine ew_iconst (2) d_XProver_putIn_18 (by decide) ?_
  refine ew_iload_n 3 d_XProver_putIn_19 rfl rfl ?_
  obtain ⟨M6, aM6, bM6, cM6, eM6, h⟩ := wI_inv h
  refine ew_wI d_XProver_putIn_20 aM6 bM6 cM6 eM6 ?_
  refine ew_iconst (0) d_XProver_putIn_21 (by decide) ?_
  refine ew_istore (L' := [(0, .ref l0), (1, .ref l1), (2, .ref l2), (3, .int l3), (4, .int (0 : Int32))]) [1, 2, 3, 4, 0] d_XProver_putIn_22 (by decide) rfl ?_
  exact ew_pick (L' := [(0, .ref l0), (1, .ref l1), (2, .ref l2), (4, .int (0 : Int32))]) [0, 1, 2, 4] rfl (E_XProver_putIn_24 hn hl n l0 l1 l2 (0 : Int32) M6 h)
theorem T_XProver_putIn {n : Nat} {l0 : Nat} {l1 : Nat} {l2 : Nat} {l3 : Int32} {M Mf : PM} {res : qRs} (h : F_XProver_putIn n l0 l1 l2 l3 M = some (res, Mf)) : CT Y_XProver_putIn 0 0 [.ref l0, .ref l1, .ref l2, .int l3] M res Mf :=
  CT_of (by decide) (Nat.le_of_ble_eq_true rfl) (qHd_ne (by decide)) (fun g X ad0 => E_XProver_putIn (g := g) (X := X) (Z := (ad0, M, res, Mf, 0, 0)) (Nat.le_refl _) (Nat.le_refl _) h)
theorem d_XQuestion_addInvariant_0 : decode Y_XQuestion_addInvariant.2.1 0 = .ok (.aload_n 0, 1) := by decide +kernel
theorem d_XQuestion_addInvariant_1 : decode Y_XQuestion_addInvariant.2.1 1 = .ok (.getfield 21, 3) := by decide +kernel
theorem d_XQuestion_addInvariant_4 : decode Y_XQuestion_addInvariant.2.1 4 = .ok (.aload_n 0, 1) := by decide +kernel
theorem d_XQuestion_addInvariant_5 : decode Y_XQuestion_addInvariant.2.1 5 = .ok (.getfield 9, 3) := by decide +kernel
theorem d_XQuestion_addInvariant_8 : decode Y_XQuestion_addInvariant.2.1 8 = .ok (.arraylength, 1) := by decide +kernel
theorem d_XQuestion_addInvariant_9 : decode Y_XQuestion_addInvariant.2.1 9 = .ok (.if_icmp .ge (23), 3) := by decide +kernel
theorem d_XQuestion_addInvariant_12 : decode Y_XQuestion_addInvariant.2.1 12 = .ok (.aload_n 0, 1) := by decide +kernel
theorem d_XQuestion_addInvariant_13 : decode Y_XQuestion_addInvariant.2.1 13 = .ok (.getfield 9, 3) := by decide +kernel
theorem d_XQuestion_addInvariant_16 : decode Y_XQuestion_addInvariant.2.1 16 = .ok (.aload_n 0, 1) := by decide +kernel
theorem d_XQuestion_addInvariant_17 : decode Y_XQuestion_addInvariant.2.1 17 = .ok (.getfield 21, 3) := by decide +kernel
theorem d_XQuestion_addInvariant_20 : decode Y_XQuestion_addInvariant.2.1 20 = .ok (.iload_n 1, 1) := by decide +kernel
theorem d_XQuestion_addInvariant_21 : decode Y_XQuestion_addInvariant.2.1 21 = .ok (.iastore, 1) := by decide +kernel
theorem d_XQuestion_addInvariant_22 : decode Y_XQuestion_addInvariant.2.1 22 = .ok (.aload_n 0, 1) := by decide +kernel
theorem d_XQuestion_addInvariant_23 : decode Y_XQuestion_addInvariant.2.1 23 = .ok (.dup, 1) := by decide +kernel
theorem d_XQuestion_addInvariant_24 : decode Y_XQuestion_addInvariant.2.1 24 = .ok (.getfield 21, 3) := by decide +kernel
theorem d_XQuestion_addInvariant_27 : decode Y_XQuestion_addInvariant.2.1 27 = .ok (.iconst 1, 1) := by decide +kernel
theorem d_XQuestion_addInvariant_28 : decode Y_XQuestion_addInvariant.2.1 28 = .ok (.iadd, 1) := by decide +kernel
theorem d_XQuestion_addInvariant_29 : decode Y_XQuestion_addInvariant.2.1 29 = .ok (.putfield 21, 3) := by decide +kernel
theorem d_XQuestion_addInvariant_32 : decode Y_XQuestion_addInvariant.2.1 32 = .ok (.return_, 1) := by decide +kernel
def F_XQuestion_addInvariant_32 (n : Nat) (M : PM) : qO :=
  some (.inl none, M)
set_option maxHeartbeats 4000000 in
set_option maxRecDepth 100000 in
theorem E_XQuestion_addInvariant_32 {g : qG} {X : qX} {Z : qZ} (hn : 0 ≤ zn Z) (hl : 0 ≤ zl Z) {n : Nat} {M : PM} (h : F_XQuestion_addInvariant_32 n M = some (zr Z, zf Z)) : EW Y_XQuestion_addInvariant g X Z 32 [] [] M := by
  unfold F_XQuestion_addInvariant_32 at h
  obtain ⟨hz, hm⟩ := Prod.mk.inj (Option.some.inj h)
  exact ew_return d_XQuestion_addInvariant_32 rfl hz.symm hm.symm
def F_XQuestion_addInvariant (n : Nat) (l0 : Nat) (l1 : Int32) (M : PM) : qO :=
  gI 7 M l0 3 (fun v1 =>
  gR 7 M l0 0 (fun v2 =>
  aL M v2 (fun v3 =>
  if v3 ≤ v1 then
    F_XQuestion_addInvariant_32 n M
  else
    gR 7 M l0 0 (fun v5 =>
    gI 7 M l0 3 (fun v6 =>
    wI M v5 v6 l1 (fun M7 =>
    gI 7 M7 l0 3 (fun v8 =>
    pF 7 M7 l0 3 (.int (v8 + (1 : Int32))) (fun M9 =>
    F_XQuestion_addInvariant_32 n M9))))))))
set_option maxHeartbeats 4000000 in
set_option maxRecDepth 100000 in
theorem E_XQuestion_addInvariant {g : qG} {X : qX} {Z : qZ} (hn : 0 ≤ zn Z) (hl : 0 ≤ zl Z) {n : Nat} {l0 : Nat} {l1 : Int32} {M : PM} (h : F_XQuestion_addInvariant n l0 l1 M = some (zr Z, zf Z)) : EW Y_XQuestion_addInvariant g X Z 0 [(0, .ref l0), (1, .int l1)] [] M := by
  unfold F_XQuestion_addInvariant at h
  refine ew_aload_n 0 d_XQuestion_addInvariant_0 rfl rfl ?_
  obtain ⟨v1, av1, bv1, h⟩ := gI_inv h
  refine ew_gI 7 3 d_XQuestion_addInvariant_1 fl_XQuestion_21 av1 bv1 ?_
  refine ew_aload_n 0 d_XQuestion_addInvariant_4 rfl rfl ?_
  obtain ⟨v2, av2, bv2, h⟩ := gR_inv h
  refine ew_gR 7 0 d_XQuestion_addInvariant_5 fl_XQuestion_9 av2 bv2 ?_
  obtain ⟨v3, av3, ev3, h⟩ := aL_inv h
  refine ew_aL d_XQuestion_addInvariant_8 av3 ev3 ?_
  refine ew_icmp_ge 32 d_XQuestion_addInvariant_9 (by decide) (fun c4 => ?_) (fun c4 => ?_)
  · rw [if_pos c4] at h
    exact ew_pick (L' := []) [] rfl (E_XQuestion_addInvariant_32 hn hl h)
  · rw [if_neg c4] at h
    refine ew_aload_n 0 d_XQuestion_addInvariant_12 rfl rfl ?_
    obtain ⟨v5, av5, bv5, h⟩ := gR_inv h
    refine ew_gR 7 0 d_XQuestion_addInvariant_13 fl_XQuestion_9 av5 bv5 ?_
    refine ew_aload_n 0 d_XQuestion_addInvariant_16 rfl rfl ?_
    obtain ⟨v6, av6, bv6, h⟩ := gI_inv h
    refine ew_gI 7 3 d_XQuestion_addInvariant_17 fl_XQuestion_21 av6 bv6 ?_
    refine ew_iload_n 1 d_XQuestion_addInvariant_20 rfl rfl ?_
    obtain ⟨M7, aM7, bM7, cM7, eM7, h⟩ := wI_inv h
    refine ew_wI d_XQuestion_addInvariant_21 aM7 bM7 cM7 eM7 ?_
    refine ew_aload_n 0 d_XQuestion_addInvariant_22 rfl rfl ?_
    refine ew_dup d_XQuestion_addInvariant_23 rfl ?_
    obtain ⟨v8, av8, bv8, h⟩ := gI_inv h
    refine ew_gI 7 3 d_XQuestion_addInvariant_24 fl_XQuestion_21 av8 bv8 ?_
    refine ew_iconst (1) d_XQuestion_addInvariant_27 (by decide) ?_
    refine ew_iadd d_XQuestion_addInvariant_28 ?_
    obtain ⟨M9, aM9, eM9, h⟩ := pF_inv h
    refine ew_pF 7 3 d_XQuestion_addInvariant_29 fl_XQuestion_21 aM9 eM9 (fun ad => ⟨rfl, rfl⟩) ?_
    exact ew_pick (L' := []) [] rfl (E_XQuestion_addInvariant_32 hn hl h)
theorem T_XQuestion_addInvariant {n : Nat} {l0 : Nat} {l1 : Int32} {M Mf : PM} {res : qRs} (h : F_XQuestion_addInvariant n l0 l1 M = some (res, Mf)) : CT Y_XQuestion_addInvariant 0 0 [.ref l0, .int l1] M res Mf :=
  CT_of (by decide) (Nat.le_of_ble_eq_true rfl) (qHd_ne (by decide)) (fun g X ad0 => E_XQuestion_addInvariant (g := g) (X := X) (Z := (ad0, M, res, Mf, 0, 0)) (Nat.le_refl _) (Nat.le_refl _) h)
theorem d_XProver_begin_0 : decode Y_XProver_begin.2.1 0 = .ok (.aload_n 0, 1) := by decide +kernel
theorem d_XProver_begin_1 : decode Y_XProver_begin.2.1 1 = .ok (.getfield 14, 3) := by decide +kernel
theorem d_XProver_begin_4 : decode Y_XProver_begin.2.1 4 = .ok (.invokevirtual 110, 3) := by decide +kernel
theorem d_XProver_begin_7 : decode Y_XProver_begin.2.1 7 = .ok (.aload_n 0, 1) := by decide +kernel
theorem d_XProver_begin_8 : decode Y_XProver_begin.2.1 8 = .ok (.getfield 23, 3) := by decide +kernel
theorem d_XProver_begin_11 : decode Y_XProver_begin.2.1 11 = .ok (.invokevirtual 113, 3) := by decide +kernel
theorem d_XProver_begin_14 : decode Y_XProver_begin.2.1 14 = .ok (.iconst 0, 1) := by decide +kernel
theorem d_XProver_begin_15 : decode Y_XProver_begin.2.1 15 = .ok (.istore_n 2, 1) := by decide +kernel
theorem d_XProver_begin_16 : decode Y_XProver_begin.2.1 16 = .ok (.iload_n 2, 1) := by decide +kernel
theorem d_XProver_begin_17 : decode Y_XProver_begin.2.1 17 = .ok (.aload_n 1, 1) := by decide +kernel
theorem d_XProver_begin_18 : decode Y_XProver_begin.2.1 18 = .ok (.getfield 50, 3) := by decide +kernel
theorem d_XProver_begin_21 : decode Y_XProver_begin.2.1 21 = .ok (.if_icmp .ge (58), 3) := by decide +kernel
theorem d_XProver_begin_24 : decode Y_XProver_begin.2.1 24 = .ok (.aload_n 1, 1) := by decide +kernel
theorem d_XProver_begin_25 : decode Y_XProver_begin.2.1 25 = .ok (.getfield 96, 3) := by decide +kernel
theorem d_XProver_begin_28 : decode Y_XProver_begin.2.1 28 = .ok (.aload_n 1, 1) := by decide +kernel
theorem d_XProver_begin_29 : decode Y_XProver_begin.2.1 29 = .ok (.getfield 115, 3) := by decide +kernel
theorem d_XProver_begin_32 : decode Y_XProver_begin.2.1 32 = .ok (.iload_n 2, 1) := by decide +kernel
theorem d_XProver_begin_33 : decode Y_XProver_begin.2.1 33 = .ok (.iaload, 1) := by decide +kernel
theorem d_XProver_begin_34 : decode Y_XProver_begin.2.1 34 = .ok (.invokevirtual 118, 3) := by decide +kernel
theorem d_XProver_begin_37 : decode Y_XProver_begin.2.1 37 = .ok (.ifCond .eq (7), 3) := by decide +kernel
theorem d_XProver_begin_40 : decode Y_XProver_begin.2.1 40 = .ok (.iconst 3, 1) := by decide +kernel
theorem d_XProver_begin_41 : decode Y_XProver_begin.2.1 41 = .ok (.goto (4), 3) := by decide +kernel
theorem d_XProver_begin_44 : decode Y_XProver_begin.2.1 44 = .ok (.iconst 4, 1) := by decide +kernel
theorem d_XProver_begin_45 : decode Y_XProver_begin.2.1 45 = .ok (.istore_n 3, 1) := by decide +kernel
theorem d_XProver_begin_46 : decode Y_XProver_begin.2.1 46 = .ok (.aload_n 0, 1) := by decide +kernel
theorem d_XProver_begin_47 : decode Y_XProver_begin.2.1 47 = .ok (.getfield 44, 3) := by decide +kernel
theorem d_XProver_begin_50 : decode Y_XProver_begin.2.1 50 = .ok (.iload_n 2, 1) := by decide +kernel
theorem d_XProver_begin_51 : decode Y_XProver_begin.2.1 51 = .ok (.aload_n 0, 1) := by decide +kernel
theorem d_XProver_begin_52 : decode Y_XProver_begin.2.1 52 = .ok (.getfield 14, 3) := by decide +kernel
theorem d_XProver_begin_55 : decode Y_XProver_begin.2.1 55 = .ok (.iload_n 3, 1) := by decide +kernel
theorem d_XProver_begin_56 : decode Y_XProver_begin.2.1 56 = .ok (.iload_n 2, 1) := by decide +kernel
theorem d_XProver_begin_57 : decode Y_XProver_begin.2.1 57 = .ok (.invokevirtual 122, 3) := by decide +kernel
theorem d_XProver_begin_60 : decode Y_XProver_begin.2.1 60 = .ok (.iastore, 1) := by decide +kernel
theorem d_XProver_begin_61 : decode Y_XProver_begin.2.1 61 = .ok (.aload_n 0, 1) := by decide +kernel
theorem d_XProver_begin_62 : decode Y_XProver_begin.2.1 62 = .ok (.getfield 47, 3) := by decide +kernel
theorem d_XProver_begin_65 : decode Y_XProver_begin.2.1 65 = .ok (.iload_n 2, 1) := by decide +kernel
theorem d_XProver_begin_66 : decode Y_XProver_begin.2.1 66 = .ok (.aload_n 0, 1) := by decide +kernel
theorem d_XProver_begin_67 : decode Y_XProver_begin.2.1 67 = .ok (.getfield 44, 3) := by decide +kernel
theorem d_XProver_begin_70 : decode Y_XProver_begin.2.1 70 = .ok (.iload_n 2, 1) := by decide +kernel
theorem d_XProver_begin_71 : decode Y_XProver_begin.2.1 71 = .ok (.iaload, 1) := by decide +kernel
theorem d_XProver_begin_72 : decode Y_XProver_begin.2.1 72 = .ok (.iastore, 1) := by decide +kernel
theorem d_XProver_begin_73 : decode Y_XProver_begin.2.1 73 = .ok (.iinc 2 (1), 3) := by decide +kernel
theorem d_XProver_begin_76 : decode Y_XProver_begin.2.1 76 = .ok (.goto (-60), 3) := by decide +kernel
theorem d_XProver_begin_79 : decode Y_XProver_begin.2.1 79 = .ok (.aload_n 0, 1) := by decide +kernel
theorem d_XProver_begin_80 : decode Y_XProver_begin.2.1 80 = .ok (.aload_n 1, 1) := by decide +kernel
theorem d_XProver_begin_81 : decode Y_XProver_begin.2.1 81 = .ok (.aload_n 0, 1) := by decide +kernel
theorem d_XProver_begin_82 : decode Y_XProver_begin.2.1 82 = .ok (.getfield 44, 3) := by decide +kernel
theorem d_XProver_begin_85 : decode Y_XProver_begin.2.1 85 = .ok (.iconst 2, 1) := by decide +kernel
theorem d_XProver_begin_86 : decode Y_XProver_begin.2.1 86 = .ok (.invokevirtual 93, 3) := by decide +kernel
theorem d_XProver_begin_89 : decode Y_XProver_begin.2.1 89 = .ok (.aload_n 0, 1) := by decide +kernel
theorem d_XProver_begin_90 : decode Y_XProver_begin.2.1 90 = .ok (.getfield 14, 3) := by decide +kernel
theorem d_XProver_begin_93 : decode Y_XProver_begin.2.1 93 = .ok (.aload_n 1, 1) := by decide +kernel
theorem d_XProver_begin_94 : decode Y_XProver_begin.2.1 94 = .ok (.getfield 96, 3) := by decide +kernel
theorem d_XProver_begin_97 : decode Y_XProver_begin.2.1 97 = .ok (.aload_n 0, 1) := by decide +kernel
theorem d_XProver_begin_98 : decode Y_XProver_begin.2.1 98 = .ok (.getfield 40, 3) := by decide +kernel
theorem d_XProver_begin_101 : decode Y_XProver_begin.2.1 101 = .ok (.invokevirtual 99, 3) := by decide +kernel
theorem d_XProver_begin_104 : decode Y_XProver_begin.2.1 104 = .ok (.iconst 0, 1) := by decide +kernel
theorem d_XProver_begin_105 : decode Y_XProver_begin.2.1 105 = .ok (.istore_n 2, 1) := by decide +kernel
theorem d_XProver_begin_106 : decode Y_XProver_begin.2.1 106 = .ok (.iload_n 2, 1) := by decide +kernel
theorem d_XProver_begin_107 : decode Y_XProver_begin.2.1 107 = .ok (.aload_n 1, 1) := by decide +kernel
theorem d_XProver_begin_108 : decode Y_XProver_begin.2.1 108 = .ok (.getfield 125, 3) := by decide +kernel
theorem d_XProver_begin_111 : decode Y_XProver_begin.2.1 111 = .ok (.if_icmp .ge (27), 3) := by decide +kernel
theorem d_XProver_begin_114 : decode Y_XProver_begin.2.1 114 = .ok (.aload_n 0, 1) := by decide +kernel
theorem d_XProver_begin_115 : decode Y_XProver_begin.2.1 115 = .ok (.getfield 23, 3) := by decide +kernel
theorem d_XProver_begin_118 : decode Y_XProver_begin.2.1 118 = .ok (.aload_n 0, 1) := by decide +kernel
theorem d_XProver_begin_119 : decode Y_XProver_begin.2.1 119 = .ok (.getfield 40, 3) := by decide +kernel
theorem d_XProver_begin_122 : decode Y_XProver_begin.2.1 122 = .ok (.aload_n 1, 1) := by decide +kernel
theorem d_XProver_begin_123 : decode Y_XProver_begin.2.1 123 = .ok (.getfield 103, 3) := by decide +kernel
theorem d_XProver_begin_126 : decode Y_XProver_begin.2.1 126 = .ok (.iload_n 2, 1) := by decide +kernel
theorem d_XProver_begin_127 : decode Y_XProver_begin.2.1 127 = .ok (.iaload, 1) := by decide +kernel
theorem d_XProver_begin_128 : decode Y_XProver_begin.2.1 128 = .ok (.iaload, 1) := by decide +kernel
theorem d_XProver_begin_129 : decode Y_XProver_begin.2.1 129 = .ok (.invokevirtual 128, 3) := by decide +kernel
theorem d_XProver_begin_132 : decode Y_XProver_begin.2.1 132 = .ok (.iinc 2 (1), 3) := by decide +kernel
theorem d_XProver_begin_135 : decode Y_XProver_begin.2.1 135 = .ok (.goto (-29), 3) := by decide +kernel
theorem d_XProver_begin_138 : decode Y_XProver_begin.2.1 138 = .ok (.return_, 1) := by decide +kernel
def F_XProver_begin_45 (n : Nat) (rec16 : Nat → Nat → Int32 → PM → qO) (l0 : Nat) (l1 : Nat) (l2 : Int32) (s0 : Int32) (M : PM) : qO :=
  gR 6 M l0 5 (fun v1 =>
  gR 6 M l0 0 (fun v2 =>
  kO 3 M v2 (
  cI (F_XNodes_makeElement n v2 s0 l2 M) (fun v4 M3 =>
  wI M3 v1 l2 v4 (fun M5 =>
  gR 6 M5 l0 6 (fun v6 =>
  gR 6 M5 l0 5 (fun v7 =>
  lI M5 v7 l2 (fun v8 =>
  wI M5 v6 l2 v8 (fun M9 =>
  bI (l2 + (1 : Int32)) (fun v10 =>
  rec16 l0 l1 v10 M9))))))))))
set_option maxHeartbeats 4000000 in
set_option maxRecDepth 100000 in
theorem E_XProver_begin_45 {g : qG} {X : qX} {Z : qZ} (hn : 4 ≤ zn Z) (hl : 97 ≤ zl Z) {n : Nat} {rec16 : Nat → Nat → Int32 → PM → qO} (hrec16 : ∀ (l0 : Nat) (l1 : Nat) (l2 : Int32) (M : PM), rec16 l0 l1 l2 M = some (zr Z, zf Z) → EW Y_XProver_begin g X Z 16 [(0, .ref l0), (1, .ref l1), (2, .int l2)] [] M) {l0 : Nat} {l1 : Nat} {l2 : Int32} {s0 : Int32} {M : PM} (h : F_XProver_begin_45 n rec16 l0 l1 l2 s0 M = some (zr Z, zf Z)) : EW Y_XProver_begin g X Z 45 [(0, .ref l0), (1, .ref l1), (2, .int l2)] [.int s0] M := by
  unfold F_XProver_begin_45 at h
  refine ew_istore_n (L' := [(0, .ref l0), (1, .ref l1), (2, .int l2), (3, .int s0)]) 3 [1, 2, 3, 0] d_XProver_begin_45 rfl (by decide) rfl ?_
  refine ew_aload_n 0 d_XProver_begin_46 rfl rfl ?_
  obtain ⟨v1, av1, bv1, h⟩ := gR_inv h
  refine ew_gR 6 5 d_XProver_begin_47 fl_XProver_44 av1 bv1 ?_
  refine ew_iload_n 2 d_XProver_begin_50 rfl rfl ?_
  refine ew_aload_n 0 d_XProver_begin_51 rfl rfl ?_
  obtain ⟨v2, av2, bv2, h⟩ := gR_inv h
  refine ew_gR 6 0 d_XProver_begin_52 fl_XProver_14 av2 bv2 ?_
  refine ew_iload_n 3 d_XProver_begin_55 rfl rfl ?_
  refine ew_iload_n 2 d_XProver_begin_56 rfl rfl ?_
  obtain ⟨kM3, h⟩ := kO_inv h
  obtain ⟨v4, M3, hM3, h⟩ := cI_inv h
  refine ew_callV 3 [.int s0, .int l2] d_XProver_begin_57 cv_XProver_122 (T_XNodes_makeElement hM3) kM3 (Nat.le_trans (Nat.le_of_ble_eq_true rfl) hn) (Nat.le_trans (Nat.le_of_ble_eq_true rfl) hl) (Nat.le_of_ble_eq_true rfl) rfl rfl ?_
  obtain ⟨M5, aM5, bM5, cM5, eM5, h⟩ := wI_inv h
  refine ew_wI d_XProver_begin_60 aM5 bM5 cM5 eM5 ?_
  refine ew_aload_n 0 d_XProver_begin_61 rfl rfl ?_
  obtain ⟨v6, av6, bv6, h⟩ := gR_inv h
  refine ew_gR 6 6 d_XProver_begin_62 fl_XProver_47 av6 bv6 ?_
  refine ew_iload_n 2 d_XProver_begin_65 rfl rfl ?_
  refine ew_aload_n 0 d_XProver_begin_66 rfl rfl ?_
  obtain ⟨v7, av7, bv7, h⟩ := gR_inv h
  refine ew_gR 6 5 d_XProver_begin_67 fl_XProver_44 av7 bv7 ?_
  refine ew_iload_n 2 d_XProver_begin_70 rfl rfl ?_
  obtain ⟨v8, av8, bv8, cv8, ev8, h⟩ := lI_inv h
  refine ew_lI d_XProver_begin_71 av8 bv8 cv8 ev8 ?_
  obtain ⟨M9, aM9, bM9, cM9, eM9, h⟩ := wI_inv h
  refine ew_wI d_XProver_begin_72 aM9 bM9 cM9 eM9 ?_
  obtain ⟨v10, ev10, h⟩ := bI_inv h
  refine ew_iinc (L' := [(0, .ref l0), (1, .ref l1), (2, .int v10), (3, .int s0)]) v10 [1, 2, 0, 3] d_XProver_begin_73 rfl (by rw [ev10]; rfl) (by decide) rfl ?_
  refine ew_goto 16 d_XProver_begin_76 (by decide) ?_
  exact ew_pick (L' := [(0, .ref l0), (1, .ref l1), (2, .int v10)]) [0, 1, 2] rfl (hrec16 l0 l1 v10 M9 h)
def F_XProver_begin_106 (n : Nat) : Nat → Nat → Nat → Int32 → PM → qO
  | 0, _, _, _, _ => none
  | f + 1, l0, l1, l2, M =>
    gI 2 M l1 8 (fun v1 =>
    if v1 ≤ l2 then
      some (.inl none, M)
    else
      gR 6 M l0 1 (fun v3 =>
      gR 6 M l0 4 (fun v4 =>
      gR 2 M l1 4 (fun v5 =>
      lI M v5 l2 (fun v6 =>
      lI M v4 v6 (fun v7 =>
      kO 7 M v3 (
      cV (F_XQuestion_addInvariant n v3 v7 M) (fun M8 =>
      bI (l2 + (1 : Int32)) (fun v9 =>
      (F_XProver_begin_106 n f) l0 l1 v9 M8)))))))))
set_option maxHeartbeats 4000000 in
set_option maxRecDepth 100000 in
theorem E_XProver_begin_106 {g : qG} {X : qX} {Z : qZ} (hn : 4 ≤ zn Z) (hl : 97 ≤ zl Z) {n : Nat} : ∀ (f : Nat) (l0 : Nat) (l1 : Nat) (l2 : Int32) (M : PM), F_XProver_begin_106 n f l0 l1 l2 M = some (zr Z, zf Z) → EW Y_XProver_begin g X Z 106 [(0, .ref l0), (1, .ref l1), (2, .int l2)] [] M := by
  intro f
  induction f with
  | zero => intro l0 l1 l2 M h; rw [F_XProver_begin_106] at h; cases h
  | succ f ih =>
    intro l0 l1 l2 M h
    rw [F_XProver_begin_106] at h
    refine ew_iload_n 2 d_XProver_begin_106 rfl rfl ?_
    refine ew_aload_n 1 d_XProver_begin_107 rfl rfl ?_
    obtain ⟨v1, av1, bv1, h⟩ := gI_inv h
    refine ew_gI 2 8 d_XProver_begin_108 fl_XProver_125 av1 bv1 ?_
    refine ew_icmp_ge 138 d_XProver_begin_111 (by decide) (fun c2 => ?_) (fun c2 => ?_)
    · rw [if_pos c2] at h
      obtain ⟨hz, hm⟩ := Prod.mk.inj (Option.some.inj h)
      exact ew_return d_XProver_begin_138 rfl hz.symm hm.symm
    · rw [if_neg c2] at h
      refine ew_aload_n 0 d_XProver_begin_114 rfl rfl ?_
      obtain ⟨v3, av3, bv3, h⟩ := gR_inv h
      refine ew_gR 6 1 d_XProver_begin_115 fl_XProver_23 av3 bv3 ?_
      refine ew_aload_n 0 d_XProver_begin_118 rfl rfl ?_
      obtain ⟨v4, av4, bv4, h⟩ := gR_inv h
      refine ew_gR 6 4 d_XProver_begin_119 fl_XProver_40 av4 bv4 ?_
      refine ew_aload_n 1 d_XProver_begin_122 rfl rfl ?_
      obtain ⟨v5, av5, bv5, h⟩ := gR_inv h
      refine ew_gR 2 4 d_XProver_begin_123 fl_XProver_103 av5 bv5 ?_
      refine ew_iload_n 2 d_XProver_begin_126 rfl rfl ?_
      obtain ⟨v6, av6, bv6, cv6, ev6, h⟩ := lI_inv h
      refine ew_lI d_XProver_begin_127 av6 bv6 cv6 ev6 ?_
      obtain ⟨v7, av7, bv7, cv7, ev7, h⟩ := lI_inv h
      refine ew_lI d_XProver_begin_128 av7 bv7 cv7 ev7 ?_
      obtain ⟨kM8, h⟩ := kO_inv h
      obtain ⟨M8, hM8, h⟩ := cV_inv h
      refine ew_callV 7 [.int v7] d_XProver_begin_129 cv_XProver_128 (T_XQuestion_addInvariant hM8) kM8 (Nat.le_trans (Nat.le_of_ble_eq_true rfl) hn) (Nat.le_trans (Nat.le_of_ble_eq_true rfl) hl) (Nat.le_of_ble_eq_true rfl) rfl rfl ?_
      obtain ⟨v9, ev9, h⟩ := bI_inv h
      refine ew_iinc (L' := [(0, .ref l0), (1, .ref l1), (2, .int v9)]) v9 [1, 2, 0] d_XProver_begin_132 rfl (by rw [ev9]; rfl) (by decide) rfl ?_
      refine ew_goto 106 d_XProver_begin_135 (by decide) ?_
      exact ih l0 l1 v9 M8 h
def F_XProver_begin_16 (n : Nat) : Nat → Nat → Nat → Int32 → PM → qO
  | 0, _, _, _, _ => none
  | f + 1, l0, l1, l2, M =>
    gI 2 M l1 6 (fun v1 =>
    if v1 ≤ l2 then
      gR 6 M l0 5 (fun v3 =>
      kO 6 M l0 (
      cV (F_XProver_putIn n l0 l1 v3 (2 : Int32) M) (fun M4 =>
      gR 6 M4 l0 0 (fun v5 =>
      gR 2 M4 l1 0 (fun v6 =>
      gR 6 M4 l0 4 (fun v7 =>
      kO 3 M4 v5 (
      cV (F_XNodes_remakeAll n v5 v6 v7 M4) (fun M8 =>
      F_XProver_begin_106 n n l0 l1 (0 : Int32) M8))))))))
    else
      gR 2 M l1 0 (fun v9 =>
      gR 2 M l1 1 (fun v10 =>
      lI M v10 l2 (fun v11 =>
      kO 3 M v9 (
      cI (F_XNodes_isWord n v9 v11 M) (fun v13 M12 =>
      if v13 = (0 : Int32) then
        F_XProver_begin_45 n (F_XProver_begin_16 n f) l0 l1 l2 (4 : Int32) M12
      else
        F_XProver_begin_45 n (F_XProver_begin_16 n f) l0 l1 l2 (3 : Int32) M12))))))
set_option maxHeartbeats 4000000 in
set_option maxRecDepth 100000 in
theorem E_XProver_begin_16 {g : qG} {X : qX} {Z : qZ} (hn : 4 ≤ zn Z) (hl : 97 ≤ zl Z) {n : Nat} : ∀ (f : Nat) (l0 : Nat) (l1 : Nat) (l2 : Int32) (M : PM), F_XProver_begin_16 n f l0 l1 l2 M = some (zr Z, zf Z) → EW Y_XProver_begin g X Z 16 [(0, .ref l0), (1, .ref l1), (2, .int l2)] [] M := by
  intro f
  induction f with
  | zero => intro l0 l1 l2 M h; rw [F_XProver_begin_16] at h; cases h
  | succ f ih =>
    intro l0 l1 l2 M h
    rw [F_XProver_begin_16] at h
    refine ew_iload_n 2 d_XProver_begin_16 rfl rfl ?_
    refine ew_aload_n 1 d_XProver_begin_17 rfl rfl ?_
    obtain ⟨v1, av1, bv1, h⟩ := gI_inv h
    refine ew_gI 2 6 d_XProver_begin_18 fl_XProver_50 av1 bv1 ?_
    refine ew_icmp_ge 79 d_XProver_begin_21 (by decide) (fun c2 => ?_) (fun c2 => ?_)
    · rw [if_pos c2] at h
      refine ew_aload_n 0 d_XProver_begin_79 rfl rfl ?_
      refine ew_aload_n 1 d_XProver_begin_80 rfl rfl ?_
      refine ew_aload_n 0 d_XProver_begin_81 rfl rfl ?_
      obtain ⟨v3, av3, bv3, h⟩ := gR_inv h
      refine ew_gR 6 5 d_XProver_begin_82 fl_XProver_44 av3 bv3 ?_
      refine ew_iconst (2) d_XProver_begin_85 (by decide) ?_
      obtain ⟨kM4, h⟩ := kO_inv h
      obtain ⟨M4, hM4, h⟩ := cV_inv h
      refine ew_callV 6 [.ref l1, .ref v3, .int (2 : Int32)] d_XProver_begin_86 cv_XProver_93 (T_XProver_putIn hM4) kM4 (Nat.le_trans (Nat.le_of_ble_eq_true rfl) hn) (Nat.le_trans (Nat.le_of_ble_eq_true rfl) hl) (Nat.le_of_ble_eq_true rfl) rfl rfl ?_
      refine ew_aload_n 0 d_XProver_begin_89 rfl rfl ?_
      obtain ⟨v5, av5, bv5, h⟩ := gR_inv h
      refine ew_gR 6 0 d_XProver_begin_90 fl_XProver_14 av5 bv5 ?_
      refine ew_aload_n 1 d_XProver_begin_93 rfl rfl ?_
      obtain ⟨v6, av6, bv6, h⟩ := gR_inv h
      refine ew_gR 2 0 d_XProver_begin_94 fl_XProver_96 av6 bv6 ?_
      refine ew_aload_n 0 d_XProver_begin_97 rfl rfl ?_
      obtain ⟨v7, av7, bv7, h⟩ := gR_inv h
      refine ew_gR 6 4 d_XProver_begin_98 fl_XProver_40 av7 bv7 ?_
      obtain ⟨kM8, h⟩ := kO_inv h
      obtain ⟨M8, hM8, h⟩ := cV_inv h
      refine ew_callV 3 [.ref v6, .ref v7] d_XProver_begin_101 cv_XProver_99 (T_XNodes_remakeAll hM8) kM8 (Nat.le_trans (Nat.le_of_ble_eq_true rfl) hn) (Nat.le_trans (Nat.le_of_ble_eq_true rfl) hl) (Nat.le_of_ble_eq_true rfl) rfl rfl ?_
      refine ew_iconst (0) d_XProver_begin_104 (by decide) ?_
      refine ew_istore_n (L' := [(0, .ref l0), (1, .ref l1), (2, .int (0 : Int32))]) 2 [1, 2, 0] d_XProver_begin_105 rfl (by decide) rfl ?_
      exact E_XProver_begin_106 hn hl n l0 l1 (0 : Int32) M8 h
    · rw [if_neg c2] at h
      refine ew_aload_n 1 d_XProver_begin_24 rfl rfl ?_
      obtain ⟨v9, av9, bv9, h⟩ := gR_inv h
      refine ew_gR 2 0 d_XProver_begin_25 fl_XProver_96 av9 bv9 ?_
      refine ew_aload_n 1 d_XProver_begin_28 rfl rfl ?_
      obtain ⟨v10, av10, bv10, h⟩ := gR_inv h
      refine ew_gR 2 1 d_XProver_begin_29 fl_XProver_115 av10 bv10 ?_
      refine ew_iload_n 2 d_XProver_begin_32 rfl rfl ?_
      obtain ⟨v11, av11, bv11, cv11, ev11, h⟩ := lI_inv h
      refine ew_lI d_XProver_begin_33 av11 bv11 cv11 ev11 ?_
      obtain ⟨kM12, h⟩ := kO_inv h
      obtain ⟨v13, M12, hM12, h⟩ := cI_inv h
      refine ew_callV 3 [.int v11] d_XProver_begin_34 cv_XProver_118 (T_XNodes_isWord hM12) kM12 (Nat.le_trans (Nat.le_of_ble_eq_true rfl) hn) (Nat.le_trans (Nat.le_of_ble_eq_true rfl) hl) (Nat.le_of_ble_eq_true rfl) rfl rfl ?_
      refine ew_if_eq 44 d_XProver_begin_37 (by decide) (fun c14 => ?_) (fun c14 => ?_)
      · rw [if_pos c14] at h
        refine ew_iconst (4) d_XProver_begin_44 (by decide) ?_
        exact E_XProver_begin_45 hn hl ih h
      · rw [if_neg c14] at h
        refine ew_iconst (3) d_XProver_begin_40 (by decide) ?_
        refine ew_goto 45 d_XProver_begin_41 (by decide) ?_
        exact E_XProver_begin_45 hn hl ih h
def F_XProver_begin (n : Nat) (l0 : Nat) (l1 : Nat) (M : PM) : qO :=
  gR 6 M l0 0 (fun v1 =>
  kO 3 M v1 (
  cV (F_XNodes_reset n v1 M) (fun M2 =>
  gR 6 M2 l0 1 (fun v3 =>
  kO 7 M2 v3 (
  cV (F_XQuestion_begin n v3 M2) (fun M4 =>
  F_XProver_begin_16 n n l0 l1 (0 : Int32) M4))))))
set_option maxHeartbeats 4000000 in
set_option maxRecDepth 100000 in
theorem E_XProver_begin {g : qG} {X : qX} {Z : qZ} (hn : 4 ≤ zn Z) (hl : 97 ≤ zl Z) {n : Nat} {l0 : Nat} {l1 : Nat} {M : PM} (h : F_XProver_begin n l0 l1 M = some (zr Z, zf Z)) : EW Y_XProver_begin g X Z 0 [(0, .ref l0), (1, .ref l1)] [] M := by
  unfold F_XProver_begin at h
  refine ew_aload_n 0 d_XProver_begin_0 rfl rfl ?_
  obtain ⟨v1, av1, bv1, h⟩ := gR_inv h
  refine ew_gR 6 0 d_XProver_begin_1 fl_XProver_14 av1 bv1 ?_
  obtain ⟨kM2, h⟩ := kO_inv h
  obtain ⟨M2, hM2, h⟩ := cV_inv h
  refine ew_callV 3 [] d_XProver_begin_4 cv_XProver_110 (T_XNodes_reset hM2) kM2 (Nat.le_trans (Nat.le_of_ble_eq_true rfl) hn) (Nat.le_trans (Nat.le_of_ble_eq_true rfl) hl) (Nat.le_of_ble_eq_true rfl) rfl rfl ?_
  refine ew_aload_n 0 d_XProver_begin_7 rfl rfl ?_
  obtain ⟨v3, av3, bv3, h⟩ := gR_inv h
  refine ew_gR 6 1 d_XProver_begin_8 fl_XProver_23 av3 bv3 ?_
  obtain ⟨kM4, h⟩ := kO_inv h
  obtain ⟨M4, hM4, h⟩ := cV_inv h
  refine ew_callV 7 [] d_XProver_begin_11 cv_XProver_113 (T_XQuestion_begin hM4) kM4 (Nat.le_trans (Nat.le_of_ble_eq_true rfl) hn) (Nat.le_trans (Nat.le_of_ble_eq_true rfl) hl) (Nat.le_of_ble_eq_true rfl) rfl rfl ?_
  refine ew_iconst (0) d_XProver_begin_14 (by decide) ?_
  refine ew_istore_n (L' := [(0, .ref l0), (1, .ref l1), (2, .int (0 : Int32))]) 2 [1, 2, 0] d_XProver_begin_15 rfl (by decide) rfl ?_
  exact E_XProver_begin_16 hn hl n l0 l1 (0 : Int32) M4 h
theorem T_XProver_begin {n : Nat} {l0 : Nat} {l1 : Nat} {M Mf : PM} {res : qRs} (h : F_XProver_begin n l0 l1 M = some (res, Mf)) : CT Y_XProver_begin 4 97 [.ref l0, .ref l1] M res Mf :=
  CT_of (by decide) (Nat.le_of_ble_eq_true rfl) (qHd_ne (by decide)) (fun g X ad0 => E_XProver_begin (g := g) (X := X) (Z := (ad0, M, res, Mf, 4, 97)) (Nat.le_refl _) (Nat.le_refl _) h)
theorem d_XProver_takeImages_0 : decode Y_XProver_takeImages.2.1 0 = .ok (.iconst 0, 1) := by decide +kernel
theorem d_XProver_takeImages_1 : decode Y_XProver_takeImages.2.1 1 = .ok (.istore 4, 2) := by decide +kernel
theorem d_XProver_takeImages_3 : decode Y_XProver_takeImages.2.1 3 = .ok (.iload 4, 2) := by decide +kernel
theorem d_XProver_takeImages_5 : decode Y_XProver_takeImages.2.1 5 = .ok (.aload_n 1, 1) := by decide +kernel
theorem d_XProver_takeImages_6 : decode Y_XProver_takeImages.2.1 6 = .ok (.getfield 50, 3) := by decide +kernel
theorem d_XProver_takeImages_9 : decode Y_XProver_takeImages.2.1 9 = .ok (.if_icmp .ge (30), 3) := by decide +kernel
theorem d_XProver_takeImages_12 : decode Y_XProver_takeImages.2.1 12 = .ok (.aload_n 2, 1) := by decide +kernel
theorem d_XProver_takeImages_13 : decode Y_XProver_takeImages.2.1 13 = .ok (.iload 4, 2) := by decide +kernel
theorem d_XProver_takeImages_15 : decode Y_XProver_takeImages.2.1 15 = .ok (.iaload, 1) := by decide +kernel
theorem d_XProver_takeImages_16 : decode Y_XProver_takeImages.2.1 16 = .ok (.iconst (-1), 1) := by decide +kernel
theorem d_XProver_takeImages_17 : decode Y_XProver_takeImages.2.1 17 = .ok (.if_icmp .eq (16), 3) := by decide +kernel
theorem d_XProver_takeImages_20 : decode Y_XProver_takeImages.2.1 20 = .ok (.aload_n 3, 1) := by decide +kernel
theorem d_XProver_takeImages_21 : decode Y_XProver_takeImages.2.1 21 = .ok (.iload 4, 2) := by decide +kernel
theorem d_XProver_takeImages_23 : decode Y_XProver_takeImages.2.1 23 = .ok (.aload_n 0, 1) := by decide +kernel
theorem d_XProver_takeImages_24 : decode Y_XProver_takeImages.2.1 24 = .ok (.getfield 40, 3) := by decide +kernel
theorem d_XProver_takeImages_27 : decode Y_XProver_takeImages.2.1 27 = .ok (.aload_n 2, 1) := by decide +kernel
theorem d_XProver_takeImages_28 : decode Y_XProver_takeImages.2.1 28 = .ok (.iload 4, 2) := by decide +kernel
theorem d_XProver_takeImages_30 : decode Y_XProver_takeImages.2.1 30 = .ok (.iaload, 1) := by decide +kernel
theorem d_XProver_takeImages_31 : decode Y_XProver_takeImages.2.1 31 = .ok (.iaload, 1) := by decide +kernel
theorem d_XProver_takeImages_32 : decode Y_XProver_takeImages.2.1 32 = .ok (.iastore, 1) := by decide +kernel
theorem d_XProver_takeImages_33 : decode Y_XProver_takeImages.2.1 33 = .ok (.iinc 4 (1), 3) := by decide +kernel
theorem d_XProver_takeImages_36 : decode Y_XProver_takeImages.2.1 36 = .ok (.goto (-33), 3) := by decide +kernel
theorem d_XProver_takeImages_39 : decode Y_XProver_takeImages.2.1 39 = .ok (.return_, 1) := by decide +kernel
def F_XProver_takeImages_33 (n : Nat) (rec3 : Nat → Nat → Nat → Nat → Int32 → PM → qO) (l0 : Nat) (l1 : Nat) (l2 : Nat) (l3 : Nat) (l4 : Int32) (M : PM) : qO :=
  bI (l4 + (1 : Int32)) (fun v1 =>
  rec3 l0 l1 l2 l3 v1 M)
set_option maxHeartbeats 4000000 in
set_option maxRecDepth 100000 in
theorem E_XProver_takeImages_33 {g : qG} {X : qX} {Z : qZ} (hn : 0 ≤ zn Z) (hl : 0 ≤ zl Z) {n : Nat} {rec3 : Nat → Nat → Nat → Nat → Int32 → PM → qO} (hrec3 : ∀ (l0 : Nat) (l1 : Nat) (l2 : Nat) (l3 : Nat) (l4 : Int32) (M : PM), rec3 l0 l1 l2 l3 l4 M = some (zr Z, zf Z) → EW Y_XProver_takeImages g X Z 3 [(0, .ref l0), (1, .ref l1), (2, .ref l2), (3, .ref l3), (4, .int l4)] [] M) {l0 : Nat} {l1 : Nat} {l2 : Nat} {l3 : Nat} {l4 : Int32} {M : PM} (h : F_XProver_takeImages_33 n rec3 l0 l1 l2 l3 l4 M = some (zr Z, zf Z)) : EW Y_XProver_takeImages g X Z 33 [(0, .ref l0), (1, .ref l1), (2, .ref l2), (3, .ref l3), (4, .int l4)] [] M := by
  unfold F_XProver_takeImages_33 at h
  obtain ⟨v1, ev1, h⟩ := bI_inv h
  refine ew_iinc (L' := [(0, .ref l0), (1, .ref l1), (2, .ref l2), (3, .ref l3), (4, .int v1)]) v1 [1, 2, 3, 4, 0] d_XProver_takeImages_33 rfl (by rw [ev1]; rfl) (by decide) rfl ?_
  refine ew_goto 3 d_XProver_takeImages_36 (by decide) ?_
  exact hrec3 l0 l1 l2 l3 v1 M h
def F_XProver_takeImages_3 (n : Nat) : Nat → Nat → Nat → Nat → Nat → Int32 → PM → qO
  | 0, _, _, _, _, _, _ => none
  | f + 1, l0, l1, l2, l3, l4, M =>
    gI 2 M l1 6 (fun v1 =>
    if v1 ≤ l4 then
      some (.inl none, M)
    else
      lI M l2 l4 (fun v3 =>
      if v3 = (-1 : Int32) then
        F_XProver_takeImages_33 n (F_XProver_takeImages_3 n f) l0 l1 l2 l3 l4 M
      else
        gR 6 M l0 4 (fun v5 =>
        lI M l2 l4 (fun v6 =>
        lI M v5 v6 (fun v7 =>
        wI M l3 l4 v7 (fun M8 =>
        F_XProver_takeImages_33 n (F_XProver_takeImages_3 n f) l0 l1 l2 l3 l4 M8))))))
set_option maxHeartbeats 4000000 in
set_option maxRecDepth 100000 in
theorem E_XProver_takeImages_3 {g : qG} {X : qX} {Z : qZ} (hn : 0 ≤ zn Z) (hl : 0 ≤ zl Z) {n : Nat} : ∀ (f : Nat) (l0 : Nat) (l1 : Nat) (l2 : Nat) (l3 : Nat) (l4 : Int32) (M : PM), F_XProver_takeImages_3 n f l0 l1 l2 l3 l4 M = some (zr Z, zf Z) → EW Y_XProver_takeImages g X Z 3 [(0, .ref l0), (1, .ref l1), (2, .ref l2), (3, .ref l3), (4, .int l4)] [] M := by
  intro f
  induction f with
  | zero => intro l0 l1 l2 l3 l4 M h; rw [F_XProver_takeImages_3] at h; cases h
  | succ f ih =>
    intro l0 l1 l2 l3 l4 M h
    rw [F_XProver_takeImages_3] at h
    refine ew_iload d_XProver_takeImages_3 rfl ?_
    refine ew_aload_n 1 d_XProver_takeImages_5 rfl rfl ?_
    obtain ⟨v1, av1, bv1, h⟩ := gI_inv h
    refine ew_gI 2 6 d_XProver_takeImages_6 fl_XProver_50 av1 bv1 ?_
    refine ew_icmp_ge 39 d_XProver_takeImages_9 (by decide) (fun c2 => ?_) (fun c2 => ?_)
    · rw [if_pos c2] at h
      obtain ⟨hz, hm⟩ := Prod.mk.inj (Option.some.inj h)
      exact ew_return d_XProver_takeImages_39 rfl hz.symm hm.symm
    · rw [if_neg c2] at h
      refine ew_aload_n 2 d_XProver_takeImages_12 rfl rfl ?_
      refine ew_iload d_XProver_takeImages_13 rfl ?_
      obtain ⟨v3, av3, bv3, cv3, ev3, h⟩ := lI_inv h
      refine ew_lI d_XProver_takeImages_15 av3 bv3 cv3 ev3 ?_
      refine ew_iconst (-1) d_XProver_takeImages_16 (by decide) ?_
      refine ew_icmp_eq 33 d_XProver_takeImages_17 (by decide) (fun c4 => ?_) (fun c4 => ?_)
      · rw [if_pos c4] at h
        exact E_XProver_takeImages_33 hn hl ih h
      · rw [if_neg c4] at h
        refine ew_aload_n 3 d_XProver_takeImages_20 rfl rfl ?_
        refine ew_iload d_XProver_takeImages_21 rfl ?_
        refine ew_aload_n 0 d_XProver_takeImages_23 rfl rfl ?_
        obtain ⟨v5, av5, bv5, h⟩ := gR_inv h
        refine ew_gR 6 4 d_XProver_takeImages_24 fl_XProver_40 av5 bv5 ?_
        refine ew_aload_n 2 d_XProver_takeImages_27 rfl rfl ?_
        refine ew_iload d_XProver_takeImages_28 rfl ?_
        obtain ⟨v6, av6, bv6, cv6, ev6, h⟩ := lI_inv h
        refine ew_lI d_XProver_takeImages_30 av6 bv6 cv6 ev6 ?_
        obtain ⟨v7, av7, bv7, cv7, ev7, h⟩ := lI_inv h
        refine ew_lI d_XProver_takeImages_31 av7 bv7 cv7 ev7 ?_
        obtain ⟨M8, aM8, bM8, cM8, eM8, h⟩ := wI_inv h
        refine ew_wI d_XProver_takeImages_32 aM8 bM8 cM8 eM8 ?_
        exact E_XProver_takeImages_33 hn hl ih h
def F_XProver_takeImages (n : Nat) (l0 : Nat) (l1 : Nat) (l2 : Nat) (l3 : Nat) (M : PM) : qO :=
  F_XProver_takeImages_3 n n l0 l1 l2 l3 (0 : Int32) M
set_option maxHeartbeats 4000000 in
set_option maxRecDepth 100000 in
theorem E_XProver_takeImages {g : qG} {X : qX} {Z : qZ} (hn : 0 ≤ zn Z) (hl : 0 ≤ zl Z) {n : Nat} {l0 : Nat} {l1 : Nat} {l2 : Nat} {l3 : Nat} {M : PM} (h : F_XProver_takeImages n l0 l1 l2 l3 M = some (zr Z, zf Z)) : EW Y_XProver_takeImages g X Z 0 [(0, .ref l0), (1, .ref l1), (2, .ref l2), (3, .ref l3)] [] M := by
  unfold F_XProver_takeImages at h
  refine ew_iconst (0) d_XProver_takeImages_0 (by decide) ?_
  refine ew_istore (L' := [(0, .ref l0), (1, .ref l1), (2, .ref l2), (3, .ref l3), (4, .int (0 : Int32))]) [1, 2, 3, 4, 0] d_XProver_takeImages_1 (by decide) rfl ?_
  exact E_XProver_takeImages_3 hn hl n l0 l1 l2 l3 (0 : Int32) M h
theorem T_XProver_takeImages {n : Nat} {l0 : Nat} {l1 : Nat} {l2 : Nat} {l3 : Nat} {M Mf : PM} {res : qRs} (h : F_XProver_takeImages n l0 l1 l2 l3 M = some (res, Mf)) : CT Y_XProver_takeImages 0 0 [.ref l0, .ref l1, .ref l2, .ref l3] M res Mf :=
  CT_of (by decide) (Nat.le_of_ble_eq_true rfl) (qHd_ne (by decide)) (fun g X ad0 => E_XProver_takeImages (g := g) (X := X) (Z := (ad0, M, res, Mf, 0, 0)) (Nat.le_refl _) (Nat.le_refl _) h)
theorem d_XProver_step_0 : decode Y_XProver_step.2.1 0 = .ok (.aload_n 0, 1) := by decide +kernel
theorem d_XProver_step_1 : decode Y_XProver_step.2.1 1 = .ok (.aload_n 1, 1) := by decide +kernel
theorem d_XProver_step_2 : decode Y_XProver_step.2.1 2 = .ok (.aload_n 2, 1) := by decide +kernel
theorem d_XProver_step_3 : decode Y_XProver_step.2.1 3 = .ok (.iload_n 3, 1) := by decide +kernel
theorem d_XProver_step_4 : decode Y_XProver_step.2.1 4 = .ok (.invokevirtual 93, 3) := by decide +kernel
theorem d_XProver_step_7 : decode Y_XProver_step.2.1 7 = .ok (.aload_n 0, 1) := by decide +kernel
theorem d_XProver_step_8 : decode Y_XProver_step.2.1 8 = .ok (.getfield 14, 3) := by decide +kernel
theorem d_XProver_step_11 : decode Y_XProver_step.2.1 11 = .ok (.aload_n 1, 1) := by decide +kernel
theorem d_XProver_step_12 : decode Y_XProver_step.2.1 12 = .ok (.getfield 96, 3) := by decide +kernel
theorem d_XProver_step_15 : decode Y_XProver_step.2.1 15 = .ok (.aload_n 0, 1) := by decide +kernel
theorem d_XProver_step_16 : decode Y_XProver_step.2.1 16 = .ok (.getfield 40, 3) := by decide +kernel
theorem d_XProver_step_19 : decode Y_XProver_step.2.1 19 = .ok (.invokevirtual 99, 3) := by decide +kernel
theorem d_XProver_step_22 : decode Y_XProver_step.2.1 22 = .ok (.aload_n 0, 1) := by decide +kernel
theorem d_XProver_step_23 : decode Y_XProver_step.2.1 23 = .ok (.aload_n 1, 1) := by decide +kernel
theorem d_XProver_step_24 : decode Y_XProver_step.2.1 24 = .ok (.aload_n 1, 1) := by decide +kernel
theorem d_XProver_step_25 : decode Y_XProver_step.2.1 25 = .ok (.getfield 132, 3) := by decide +kernel
theorem d_XProver_step_28 : decode Y_XProver_step.2.1 28 = .ok (.aload_n 2, 1) := by decide +kernel
theorem d_XProver_step_29 : decode Y_XProver_step.2.1 29 = .ok (.invokevirtual 135, 3) := by decide +kernel
theorem d_XProver_step_32 : decode Y_XProver_step.2.1 32 = .ok (.return_, 1) := by decide +kernel
def F_XProver_step (n : Nat) (l0 : Nat) (l1 : Nat) (l2 : Nat) (l3 : Int32) (M : PM) : qO :=
  kO 6 M l0 (
  cV (F_XProver_putIn n l0 l1 l2 l3 M) (fun M1 =>
  gR 6 M1 l0 0 (fun v2 =>
  gR 2 M1 l1 0 (fun v3 =>
  gR 6 M1 l0 4 (fun v4 =>
  kO 3 M1 v2 (
  cV (F_XNodes_remakeAll n v2 v3 v4 M1) (fun M5 =>
  gR 2 M5 l1 2 (fun v6 =>
  kO 6 M5 l0 (
  cV (F_XProver_takeImages n l0 l1 v6 l2 M5) (fun M7 =>
  some (.inl none, M7)))))))))))
set_option maxHeartbeats 4000000 in
set_option maxRecDepth 100000 in
theorem E_XProver_step {g : qG} {X : qX} {Z : qZ} (hn : 4 ≤ zn Z) (hl : 97 ≤ zl Z) {n : Nat} {l0 : Nat} {l1 : Nat} {l2 : Nat} {l3 : Int32} {M : PM} (h : F_XProver_step n l0 l1 l2 l3 M = some (zr Z, zf Z)) : EW Y_XProver_step g X Z 0 [(0, .ref l0), (1, .ref l1), (2, .ref l2), (3, .int l3)] [] M := by
  unfold F_XProver_step at h
  refine ew_aload_n 0 d_XProver_step_0 rfl rfl ?_
  refine ew_aload_n 1 d_XProver_step_1 rfl rfl ?_
  refine ew_aload_n 2 d_XProver_step_2 rfl rfl ?_
  refine ew_iload_n 3 d_XProver_step_3 rfl rfl ?_
  obtain ⟨kM1, h⟩ := kO_inv h
  obtain ⟨M1, hM1, h⟩ := cV_inv h
  refine ew_callV 6 [.ref l1, .ref l2, .int l3] d_XProver_step_4 cv_XProver_93 (T_XProver_putIn hM1) kM1 (Nat.le_trans (Nat.le_of_ble_eq_true rfl) hn) (Nat.le_trans (Nat.le_of_ble_eq_true rfl) hl) (Nat.le_of_ble_eq_true rfl) rfl rfl ?_
  refine ew_aload_n 0 d_XProver_step_7 rfl rfl ?_
  obtain ⟨v2, av2, bv2, h⟩ := gR_inv h
  refine ew_gR 6 0 d_XProver_step_8 fl_XProver_14 av2 bv2 ?_
  refine ew_aload_n 1 d_XProver_step_11 rfl rfl ?_
  obtain ⟨v3, av3, bv3, h⟩ := gR_inv h
  refine ew_gR 2 0 d_XProver_step_12 fl_XProver_96 av3 bv3 ?_
  refine ew_aload_n 0 d_XProver_step_15 rfl rfl ?_
  obtain ⟨v4, av4, bv4, h⟩ := gR_inv h
  refine ew_gR 6 4 d_XProver_step_16 fl_XProver_40 av4 bv4 ?_
  obtain ⟨kM5, h⟩ := kO_inv h
  obtain ⟨M5, hM5, h⟩ := cV_inv h
  refine ew_callV 3 [.ref v3, .ref v4] d_XProver_step_19 cv_XProver_99 (T_XNodes_remakeAll hM5) kM5 (Nat.le_trans (Nat.le_of_ble_eq_true rfl) hn) (Nat.le_trans (Nat.le_of_ble_eq_true rfl) hl) (Nat.le_of_ble_eq_true rfl) rfl rfl ?_
  refine ew_aload_n 0 d_XProver_step_22 rfl rfl ?_
  refine ew_aload_n 1 d_XProver_step_23 rfl rfl ?_
  refine ew_aload_n 1 d_XProver_step_24 rfl rfl ?_
  obtain ⟨v6, av6, bv6, h⟩ := gR_inv h
  refine ew_gR 2 2 d_XProver_step_25 fl_XProver_132 av6 bv6 ?_
  refine ew_aload_n 2 d_XProver_step_28 rfl rfl ?_
  obtain ⟨kM7, h⟩ := kO_inv h
  obtain ⟨M7, hM7, h⟩ := cV_inv h
  refine ew_callV 6 [.ref l1, .ref v6, .ref l2] d_XProver_step_29 cv_XProver_135 (T_XProver_takeImages hM7) kM7 (Nat.le_trans (Nat.le_of_ble_eq_true rfl) hn) (Nat.le_trans (Nat.le_of_ble_eq_true rfl) hl) (Nat.le_of_ble_eq_true rfl) rfl rfl ?_
  obtain ⟨hz, hm⟩ := Prod.mk.inj (Option.some.inj h)
  exact ew_return d_XProver_step_32 rfl hz.symm hm.symm
theorem T_XProver_step {n : Nat} {l0 : Nat} {l1 : Nat} {l2 : Nat} {l3 : Int32} {M Mf : PM} {res : qRs} (h : F_XProver_step n l0 l1 l2 l3 M = some (res, Mf)) : CT Y_XProver_step 4 97 [.ref l0, .ref l1, .ref l2, .int l3] M res Mf :=
  CT_of (by decide) (Nat.le_of_ble_eq_true rfl) (qHd_ne (by decide)) (fun g X ad0 => E_XProver_step (g := g) (X := X) (Z := (ad0, M, res, Mf, 4, 97)) (Nat.le_refl _) (Nat.le_refl _) h)
theorem d_XProver_plainStep_0 : decode Y_XProver_plainStep.2.1 0 = .ok (.aload_n 0, 1) := by decide +kernel
theorem d_XProver_plainStep_1 : decode Y_XProver_plainStep.2.1 1 = .ok (.aload_n 1, 1) := by decide +kernel
theorem d_XProver_plainStep_2 : decode Y_XProver_plainStep.2.1 2 = .ok (.aload_n 2, 1) := by decide +kernel
theorem d_XProver_plainStep_3 : decode Y_XProver_plainStep.2.1 3 = .ok (.iconst 0, 1) := by decide +kernel
theorem d_XProver_plainStep_4 : decode Y_XProver_plainStep.2.1 4 = .ok (.invokevirtual 93, 3) := by decide +kernel
theorem d_XProver_plainStep_7 : decode Y_XProver_plainStep.2.1 7 = .ok (.aload_n 0, 1) := by decide +kernel
theorem d_XProver_plainStep_8 : decode Y_XProver_plainStep.2.1 8 = .ok (.getfield 14, 3) := by decide +kernel
theorem d_XProver_plainStep_11 : decode Y_XProver_plainStep.2.1 11 = .ok (.aload_n 1, 1) := by decide +kernel
theorem d_XProver_plainStep_12 : decode Y_XProver_plainStep.2.1 12 = .ok (.getfield 96, 3) := by decide +kernel
theorem d_XProver_plainStep_15 : decode Y_XProver_plainStep.2.1 15 = .ok (.aload_n 0, 1) := by decide +kernel
theorem d_XProver_plainStep_16 : decode Y_XProver_plainStep.2.1 16 = .ok (.getfield 40, 3) := by decide +kernel
theorem d_XProver_plainStep_19 : decode Y_XProver_plainStep.2.1 19 = .ok (.invokevirtual 99, 3) := by decide +kernel
theorem d_XProver_plainStep_22 : decode Y_XProver_plainStep.2.1 22 = .ok (.aload_n 0, 1) := by decide +kernel
theorem d_XProver_plainStep_23 : decode Y_XProver_plainStep.2.1 23 = .ok (.aload_n 1, 1) := by decide +kernel
theorem d_XProver_plainStep_24 : decode Y_XProver_plainStep.2.1 24 = .ok (.aload_n 1, 1) := by decide +kernel
theorem d_XProver_plainStep_25 : decode Y_XProver_plainStep.2.1 25 = .ok (.getfield 75, 3) := by decide +kernel
theorem d_XProver_plainStep_28 : decode Y_XProver_plainStep.2.1 28 = .ok (.aload_n 2, 1) := by decide +kernel
theorem d_XProver_plainStep_29 : decode Y_XProver_plainStep.2.1 29 = .ok (.invokevirtual 135, 3) := by decide +kernel
theorem d_XProver_plainStep_32 : decode Y_XProver_plainStep.2.1 32 = .ok (.return_, 1) := by decide +kernel
def F_XProver_plainStep (n : Nat) (l0 : Nat) (l1 : Nat) (l2 : Nat) (M : PM) : qO :=
  kO 6 M l0 (
  cV (F_XProver_putIn n l0 l1 l2 (0 : Int32) M) (fun M1 =>
  gR 6 M1 l0 0 (fun v2 =>
  gR 2 M1 l1 0 (fun v3 =>
  gR 6 M1 l0 4 (fun v4 =>
  kO 3 M1 v2 (
  cV (F_XNodes_remakeAll n v2 v3 v4 M1) (fun M5 =>
  gR 2 M5 l1 3 (fun v6 =>
  kO 6 M5 l0 (
  cV (F_XProver_takeImages n l0 l1 v6 l2 M5) (fun M7 =>
  some (.inl none, M7)))))))))))
set_option maxHeartbeats 4000000 in
set_option maxRecDepth 100000 in
theorem E_XProver_plainStep {g : qG} {X : qX} {Z : qZ} (hn : 4 ≤ zn Z) (hl : 97 ≤ zl Z) {n : Nat} {l0 : Nat} {l1 : Nat} {l2 : Nat} {M : PM} (h : F_XProver_plainStep n l0 l1 l2 M = some (zr Z, zf Z)) : EW Y_XProver_plainStep g X Z 0 [(0, .ref l0), (1, .ref l1), (2, .ref l2)] [] M := by
  unfold F_XProver_plainStep at h
  refine ew_aload_n 0 d_XProver_plainStep_0 rfl rfl ?_
  refine ew_aload_n 1 d_XProver_plainStep_1 rfl rfl ?_
  refine ew_aload_n 2 d_XProver_plainStep_2 rfl rfl ?_
  refine ew_iconst (0) d_XProver_plainStep_3 (by decide) ?_
  obtain ⟨kM1, h⟩ := kO_inv h
  obtain ⟨M1, hM1, h⟩ := cV_inv h
  refine ew_callV 6 [.ref l1, .ref l2, .int (0 : Int32)] d_XProver_plainStep_4 cv_XProver_93 (T_XProver_putIn hM1) kM1 (Nat.le_trans (Nat.le_of_ble_eq_true rfl) hn) (Nat.le_trans (Nat.le_of_ble_eq_true rfl) hl) (Nat.le_of_ble_eq_true rfl) rfl rfl ?_
  refine ew_aload_n 0 d_XProver_plainStep_7 rfl rfl ?_
  obtain ⟨v2, av2, bv2, h⟩ := gR_inv h
  refine ew_gR 6 0 d_XProver_plainStep_8 fl_XProver_14 av2 bv2 ?_
  refine ew_aload_n 1 d_XProver_plainStep_11 rfl rfl ?_
  obtain ⟨v3, av3, bv3, h⟩ := gR_inv h
  refine ew_gR 2 0 d_XProver_plainStep_12 fl_XProver_96 av3 bv3 ?_
  refine ew_aload_n 0 d_XProver_plainStep_15 rfl rfl ?_
  obtain ⟨v4, av4, bv4, h⟩ := gR_inv h
  refine ew_gR 6 4 d_XProver_plainStep_16 fl_XProver_40 av4 bv4 ?_
  obtain ⟨kM5, h⟩ := kO_inv h
  obtain ⟨M5, hM5, h⟩ := cV_inv h
  refine ew_callV 3 [.ref v3, .ref v4] d_XProver_plainStep_19 cv_XProver_99 (T_XNodes_remakeAll hM5) kM5 (Nat.le_trans (Nat.le_of_ble_eq_true rfl) hn) (Nat.le_trans (Nat.le_of_ble_eq_true rfl) hl) (Nat.le_of_ble_eq_true rfl) rfl rfl ?_
  refine ew_aload_n 0 d_XProver_plainStep_22 rfl rfl ?_
  refine ew_aload_n 1 d_XProver_plainStep_23 rfl rfl ?_
  refine ew_aload_n 1 d_XProver_plainStep_24 rfl rfl ?_
  obtain ⟨v6, av6, bv6, h⟩ := gR_inv h
  refine ew_gR 2 3 d_XProver_plainStep_25 fl_XProver_75 av6 bv6 ?_
  refine ew_aload_n 2 d_XProver_plainStep_28 rfl rfl ?_
  obtain ⟨kM7, h⟩ := kO_inv h
  obtain ⟨M7, hM7, h⟩ := cV_inv h
  refine ew_callV 6 [.ref l1, .ref v6, .ref l2] d_XProver_plainStep_29 cv_XProver_135 (T_XProver_takeImages hM7) kM7 (Nat.le_trans (Nat.le_of_ble_eq_true rfl) hn) (Nat.le_trans (Nat.le_of_ble_eq_true rfl) hl) (Nat.le_of_ble_eq_true rfl) rfl rfl ?_
  obtain ⟨hz, hm⟩ := Prod.mk.inj (Option.some.inj h)
  exact ew_return d_XProver_plainStep_32 rfl hz.symm hm.symm
theorem T_XProver_plainStep {n : Nat} {l0 : Nat} {l1 : Nat} {l2 : Nat} {M Mf : PM} {res : qRs} (h : F_XProver_plainStep n l0 l1 l2 M = some (res, Mf)) : CT Y_XProver_plainStep 4 97 [.ref l0, .ref l1, .ref l2] M res Mf :=
  CT_of (by decide) (Nat.le_of_ble_eq_true rfl) (qHd_ne (by decide)) (fun g X ad0 => E_XProver_plainStep (g := g) (X := X) (Z := (ad0, M, res, Mf, 4, 97)) (Nat.le_refl _) (Nat.le_refl _) h)
theorem d_XProver_markInvariants_0 : decode Y_XProver_markInvariants.2.1 0 = .ok (.aload_n 0, 1) := by decide +kernel
theorem d_XProver_markInvariants_1 : decode Y_XProver_markInvariants.2.1 1 = .ok (.getfield 14, 3) := by decide +kernel
theorem d_XProver_markInvariants_4 : decode Y_XProver_markInvariants.2.1 4 = .ok (.aload_n 0, 1) := by decide +kernel
theorem d_XProver_markInvariants_5 : decode Y_XProver_markInvariants.2.1 5 = .ok (.getfield 36, 3) := by decide +kernel
theorem d_XProver_markInvariants_8 : decode Y_XProver_markInvariants.2.1 8 = .ok (.invokevirtual 139, 3) := by decide +kernel
theorem d_XProver_markInvariants_11 : decode Y_XProver_markInvariants.2.1 11 = .ok (.iconst 0, 1) := by decide +kernel
theorem d_XProver_markInvariants_12 : decode Y_XProver_markInvariants.2.1 12 = .ok (.istore_n 1, 1) := by decide +kernel
theorem d_XProver_markInvariants_13 : decode Y_XProver_markInvariants.2.1 13 = .ok (.iload_n 1, 1) := by decide +kernel
theorem d_XProver_markInvariants_14 : decode Y_XProver_markInvariants.2.1 14 = .ok (.aload_n 0, 1) := by decide +kernel
theorem d_XProver_markInvariants_15 : decode Y_XProver_markInvariants.2.1 15 = .ok (.getfield 23, 3) := by decide +kernel
theorem d_XProver_markInvariants_18 : decode Y_XProver_markInvariants.2.1 18 = .ok (.getfield 143, 3) := by decide +kernel
theorem d_XProver_markInvariants_21 : decode Y_XProver_markInvariants.2.1 21 = .ok (.if_icmp .ge (29), 3) := by decide +kernel
theorem d_XProver_markInvariants_24 : decode Y_XProver_markInvariants.2.1 24 = .ok (.aload_n 0, 1) := by decide +kernel
theorem d_XProver_markInvariants_25 : decode Y_XProver_markInvariants.2.1 25 = .ok (.getfield 14, 3) := by decide +kernel
theorem d_XProver_markInvariants_28 : decode Y_XProver_markInvariants.2.1 28 = .ok (.aload_n 0, 1) := by decide +kernel
theorem d_XProver_markInvariants_29 : decode Y_XProver_markInvariants.2.1 29 = .ok (.getfield 36, 3) := by decide +kernel
theorem d_XProver_markInvariants_32 : decode Y_XProver_markInvariants.2.1 32 = .ok (.aload_n 0, 1) := by decide +kernel
theorem d_XProver_markInvariants_33 : decode Y_XProver_markInvariants.2.1 33 = .ok (.getfield 23, 3) := by decide +kernel
theorem d_XProver_markInvariants_36 : decode Y_XProver_markInvariants.2.1 36 = .ok (.getfield 144, 3) := by decide +kernel
theorem d_XProver_markInvariants_39 : decode Y_XProver_markInvariants.2.1 39 = .ok (.iload_n 1, 1) := by decide +kernel
theorem d_XProver_markInvariants_40 : decode Y_XProver_markInvariants.2.1 40 = .ok (.iaload, 1) := by decide +kernel
theorem d_XProver_markInvariants_41 : decode Y_XProver_markInvariants.2.1 41 = .ok (.invokevirtual 78, 3) := by decide +kernel
theorem d_XProver_markInvariants_44 : decode Y_XProver_markInvariants.2.1 44 = .ok (.iinc 1 (1), 3) := by decide +kernel
theorem d_XProver_markInvariants_47 : decode Y_XProver_markInvariants.2.1 47 = .ok (.goto (-34), 3) := by decide +kernel
theorem d_XProver_markInvariants_50 : decode Y_XProver_markInvariants.2.1 50 = .ok (.return_, 1) := by decide +kernel
def F_XProver_markInvariants_13 (n : Nat) : Nat → Nat → Int32 → PM → qO
  | 0, _, _, _ => none
  | f + 1, l0, l1, M =>
    gR 6 M l0 1 (fun v1 =>
    gI 7 M v1 3 (fun v2 =>
    if v2 ≤ l1 then
      some (.inl none, M)
    else
      gR 6 M l0 0 (fun v4 =>
      gR 6 M l0 3 (fun v5 =>
      gR 6 M l0 1 (fun v6 =>
      gR 7 M v6 0 (fun v7 =>
      lI M v7 l1 (fun v8 =>
      kO 3 M v4 (
      cV (F_XNodes_mark n v4 v5 v8 M) (fun M9 =>
      bI (l1 + (1 : Int32)) (fun v10 =>
      (F_XProver_markInvariants_13 n f) l0 v10 M9))))))))))
set_option maxHeartbeats 4000000 in
set_option maxRecDepth 100000 in
theorem E_XProver_markInvariants_13 {g : qG} {X : qX} {Z : qZ} (hn : 2 ≤ zn Z) (hl : 43 ≤ zl Z) {n : Nat} : ∀ (f : Nat) (l0 : Nat) (l1 : Int32) (M : PM), F_XProver_markInvariants_13 n f l0 l1 M = some (zr Z, zf Z) → EW Y_XProver_markInvariants g X Z 13 [(0, .ref l0), (1, .int l1)] [] M := by
  intro f
  induction f with
  | zero => intro l0 l1 M h; rw [F_XProver_markInvariants_13] at h; cases h
  | succ f ih =>
    intro l0 l1 M h
    rw [F_XProver_markInvariants_13] at h
    refine ew_iload_n 1 d_XProver_markInvariants_13 rfl rfl ?_
    refine ew_aload_n 0 d_XProver_markInvariants_14 rfl rfl ?_
    obtain ⟨v1, av1, bv1, h⟩ := gR_inv h
    refine ew_gR 6 1 d_XProver_markInvariants_15 fl_XProver_23 av1 bv1 ?_
    obtain ⟨v2, av2, bv2, h⟩ := gI_inv h
    refine ew_gI 7 3 d_XProver_markInvariants_18 fl_XProver_143 av2 bv2 ?_
    refine ew_icmp_ge 50 d_XProver_markInvariants_21 (by decide) (fun c3 => ?_) (fun c3 => ?_)
    · rw [if_pos c3] at h
      obtain ⟨hz, hm⟩ := Prod.mk.inj (Option.some.inj h)
      exact ew_return d_XProver_markInvariants_50 rfl hz.symm hm.symm
    · rw [if_neg c3] at h
      refine ew_aload_n 0 d_XProver_markInvariants_24 rfl rfl ?_
      obtain ⟨v4, av4, bv4, h⟩ := gR_inv h
      refine ew_gR 6 0 d_XProver_markInvariants_25 fl_XProver_14 av4 bv4 ?_
      refine ew_aload_n 0 d_XProver_markInvariants_28 rfl rfl ?_
      obtain ⟨v5, av5, bv5, h⟩ := gR_inv h
      refine ew_gR 6 3 d_XProver_markInvariants_29 fl_XProver_36 av5 bv5 ?_
      refine ew_aload_n 0 d_XProver_markInvariants_32 rfl rfl ?_
      obtain ⟨v6, av6, bv6, h⟩ := gR_inv h
      refine ew_gR 6 1 d_XProver_markInvariants_33 fl_XProver_23 av6 bv6 ?_
      obtain ⟨v7, av7, bv7, h⟩ := gR_inv h
      refine ew_gR 7 0 d_XProver_markInvariants_36 fl_XProver_144 av7 bv7 ?_
      refine ew_iload_n 1 d_XProver_markInvariants_39 rfl rfl ?_
      obtain ⟨v8, av8, bv8, cv8, ev8, h⟩ := lI_inv h
      refine ew_lI d_XProver_markInvariants_40 av8 bv8 cv8 ev8 ?_
      obtain ⟨kM9, h⟩ := kO_inv h
      obtain ⟨M9, hM9, h⟩ := cV_inv h
      refine ew_callV 3 [.ref v5, .int v8] d_XProver_markInvariants_41 cv_XProver_78 (T_XNodes_mark hM9) kM9 (Nat.le_trans (Nat.le_of_ble_eq_true rfl) hn) (Nat.le_trans (Nat.le_of_ble_eq_true rfl) hl) (Nat.le_of_ble_eq_true rfl) rfl rfl ?_
      obtain ⟨v10, ev10, h⟩ := bI_inv h
      refine ew_iinc (L' := [(0, .ref l0), (1, .int v10)]) v10 [1, 0] d_XProver_markInvariants_44 rfl (by rw [ev10]; rfl) (by decide) rfl ?_
      refine ew_goto 13 d_XProver_markInvariants_47 (by decide) ?_
      exact ih l0 v10 M9 h
def F_XProver_markInvariants (n : Nat) (l0 : Nat) (M : PM) : qO :=
  gR 6 M l0 0 (fun v1 =>
  gR 6 M l0 3 (fun v2 =>
  kO 3 M v1 (
  cV (F_XNodes_unmark n v1 v2 M) (fun M3 =>
  F_XProver_markInvariants_13 n n l0 (0 : Int32) M3))))
set_option maxHeartbeats 4000000 in
set_option maxRecDepth 100000 in
theorem E_XProver_markInvariants {g : qG} {X : qX} {Z : qZ} (hn : 2 ≤ zn Z) (hl : 43 ≤ zl Z) {n : Nat} {l0 : Nat} {M : PM} (h : F_XProver_markInvariants n l0 M = some (zr Z, zf Z)) : EW Y_XProver_markInvariants g X Z 0 [(0, .ref l0)] [] M := by
  unfold F_XProver_markInvariants at h
  refine ew_aload_n 0 d_XProver_markInvariants_0 rfl rfl ?_
  obtain ⟨v1, av1, bv1, h⟩ := gR_inv h
  refine ew_gR 6 0 d_XProver_markInvariants_1 fl_XProver_14 av1 bv1 ?_
  refine ew_aload_n 0 d_XProver_markInvariants_4 rfl rfl ?_
  obtain ⟨v2, av2, bv2, h⟩ := gR_inv h
  refine ew_gR 6 3 d_XProver_markInvariants_5 fl_XProver_36 av2 bv2 ?_
  obtain ⟨kM3, h⟩ := kO_inv h
  obtain ⟨M3, hM3, h⟩ := cV_inv h
  refine ew_callV 3 [.ref v2] d_XProver_markInvariants_8 cv_XProver_139 (T_XNodes_unmark hM3) kM3 (Nat.le_trans (Nat.le_of_ble_eq_true rfl) hn) (Nat.le_trans (Nat.le_of_ble_eq_true rfl) hl) (Nat.le_of_ble_eq_true rfl) rfl rfl ?_
  refine ew_iconst (0) d_XProver_markInvariants_11 (by decide) ?_
  refine ew_istore_n (L' := [(0, .ref l0), (1, .int (0 : Int32))]) 1 [1, 0] d_XProver_markInvariants_12 rfl (by decide) rfl ?_
  exact E_XProver_markInvariants_13 hn hl n l0 (0 : Int32) M3 h
theorem T_XProver_markInvariants {n : Nat} {l0 : Nat} {M Mf : PM} {res : qRs} (h : F_XProver_markInvariants n l0 M = some (res, Mf)) : CT Y_XProver_markInvariants 2 43 [.ref l0] M res Mf :=
  CT_of (by decide) (Nat.le_of_ble_eq_true rfl) (qHd_ne (by decide)) (fun g X ad0 => E_XProver_markInvariants (g := g) (X := X) (Z := (ad0, M, res, Mf, 2, 43)) (Nat.le_refl _) (Nat.le_refl _) h)
