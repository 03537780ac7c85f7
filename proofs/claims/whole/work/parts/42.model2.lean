theorem d_XModel_equal_0 : decode Y_XModel_equal.2.1 0 = .ok (.aload_n 0, 1) := by decide +kernel
theorem d_XModel_equal_1 : decode Y_XModel_equal.2.1 1 = .ok (.iconst 0, 1) := by decide +kernel
theorem d_XModel_equal_2 : decode Y_XModel_equal.2.1 2 = .ok (.putfield 87, 3) := by decide +kernel
theorem d_XModel_equal_5 : decode Y_XModel_equal.2.1 5 = .ok (.aload_n 0, 1) := by decide +kernel
theorem d_XModel_equal_6 : decode Y_XModel_equal.2.1 6 = .ok (.iload_n 1, 1) := by decide +kernel
theorem d_XModel_equal_7 : decode Y_XModel_equal.2.1 7 = .ok (.invokevirtual 125, 3) := by decide +kernel
theorem d_XModel_equal_10 : decode Y_XModel_equal.2.1 10 = .ok (.ifCond .eq (11), 3) := by decide +kernel
theorem d_XModel_equal_13 : decode Y_XModel_equal.2.1 13 = .ok (.aload_n 0, 1) := by decide +kernel
theorem d_XModel_equal_14 : decode Y_XModel_equal.2.1 14 = .ok (.iload_n 2, 1) := by decide +kernel
theorem d_XModel_equal_15 : decode Y_XModel_equal.2.1 15 = .ok (.invokevirtual 125, 3) := by decide +kernel
theorem d_XModel_equal_18 : decode Y_XModel_equal.2.1 18 = .ok (.ifCond .ne (9), 3) := by decide +kernel
theorem d_XModel_equal_21 : decode Y_XModel_equal.2.1 21 = .ok (.aload_n 0, 1) := by decide +kernel
theorem d_XModel_equal_22 : decode Y_XModel_equal.2.1 22 = .ok (.iconst 1, 1) := by decide +kernel
theorem d_XModel_equal_23 : decode Y_XModel_equal.2.1 23 = .ok (.invokevirtual 111, 3) := by decide +kernel
theorem d_XModel_equal_26 : decode Y_XModel_equal.2.1 26 = .ok (.ireturn, 1) := by decide +kernel
theorem d_XModel_equal_27 : decode Y_XModel_equal.2.1 27 = .ok (.aload_n 0, 1) := by decide +kernel
theorem d_XModel_equal_28 : decode Y_XModel_equal.2.1 28 = .ok (.iload_n 1, 1) := by decide +kernel
theorem d_XModel_equal_29 : decode Y_XModel_equal.2.1 29 = .ok (.invokevirtual 129, 3) := by decide +kernel
theorem d_XModel_equal_32 : decode Y_XModel_equal.2.1 32 = .ok (.ifCond .eq (11), 3) := by decide +kernel
theorem d_XModel_equal_35 : decode Y_XModel_equal.2.1 35 = .ok (.aload_n 0, 1) := by decide +kernel
theorem d_XModel_equal_36 : decode Y_XModel_equal.2.1 36 = .ok (.iload_n 2, 1) := by decide +kernel
theorem d_XModel_equal_37 : decode Y_XModel_equal.2.1 37 = .ok (.invokevirtual 129, 3) := by decide +kernel
theorem d_XModel_equal_40 : decode Y_XModel_equal.2.1 40 = .ok (.ifCond .ne (9), 3) := by decide +kernel
theorem d_XModel_equal_43 : decode Y_XModel_equal.2.1 43 = .ok (.aload_n 0, 1) := by decide +kernel
theorem d_XModel_equal_44 : decode Y_XModel_equal.2.1 44 = .ok (.iconst 2, 1) := by decide +kernel
theorem d_XModel_equal_45 : decode Y_XModel_equal.2.1 45 = .ok (.invokevirtual 111, 3) := by decide +kernel
theorem d_XModel_equal_48 : decode Y_XModel_equal.2.1 48 = .ok (.ireturn, 1) := by decide +kernel
theorem d_XModel_equal_49 : decode Y_XModel_equal.2.1 49 = .ok (.aload_n 0, 1) := by decide +kernel
theorem d_XModel_equal_50 : decode Y_XModel_equal.2.1 50 = .ok (.bipush (6), 2) := by decide +kernel
theorem d_XModel_equal_52 : decode Y_XModel_equal.2.1 52 = .ok (.iload_n 1, 1) := by decide +kernel
theorem d_XModel_equal_53 : decode Y_XModel_equal.2.1 53 = .ok (.iload_n 2, 1) := by decide +kernel
theorem d_XModel_equal_54 : decode Y_XModel_equal.2.1 54 = .ok (.iconst (-1), 1) := by decide +kernel
theorem d_XModel_equal_55 : decode Y_XModel_equal.2.1 55 = .ok (.iconst 3, 1) := by decide +kernel
theorem d_XModel_equal_56 : decode Y_XModel_equal.2.1 56 = .ok (.invokevirtual 132, 3) := by decide +kernel
theorem d_XModel_equal_59 : decode Y_XModel_equal.2.1 59 = .ok (.ireturn, 1) := by decide +kernel
def F_XModel_equal_21 (n : Nat) (l0 : Nat) (M : PM) : qO :=
  kO 0 M l0 (
  cI (F_XModel_fail n l0 (1 : Int32) M) (fun v2 M1 =>
  some (.inl (some (.int v2)), M1)))
set_option maxHeartbeats 4000000 in
set_option maxRecDepth 100000 in
theorem E_XModel_equal_21 {g : qG} {X : qX} {Z : qZ} (hn : 4 ≤ zn Z) (hl : 96 ≤ zl Z) {n : Nat} {l0 : Nat} {M : PM} (h : F_XModel_equal_21 n l0 M = some (zr Z, zf Z)) : EW Y_XModel_equal g X Z 21 [(0, .ref l0)] [] M := by
  unfold F_XModel_equal_21 at h
  refine ew_aload_n 0 d_XModel_equal_21 rfl rfl ?_
  refine ew_iconst (1) d_XModel_equal_22 (by decide) ?_
  obtain ⟨kM1, h⟩ := kO_inv h
  obtain ⟨v2, M1, hM1, h⟩ := cI_inv h
  refine ew_callV 0 [.int (1 : Int32)] d_XModel_equal_23 cv_XModel_111 (T_XModel_fail hM1) kM1 (Nat.le_trans (Nat.le_of_ble_eq_true rfl) hn) (Nat.le_trans (Nat.le_of_ble_eq_true rfl) hl) (Nat.le_of_ble_eq_true rfl) rfl rfl ?_
  obtain ⟨hz, hm⟩ := Prod.mk.inj (Option.some.inj h)
  exact ew_ireturn d_XModel_equal_26 rfl hz.symm hm.symm
def F_XModel_equal_43 (n : Nat) (l0 : Nat) (M : PM) : qO :=
  kO 0 M l0 (
  cI (F_XModel_fail n l0 (2 : Int32) M) (fun v2 M1 =>
  some (.inl (some (.int v2)), M1)))
set_option maxHeartbeats 4000000 in
set_option maxRecDepth 100000 in
theorem E_XModel_equal_43 {g : qG} {X : qX} {Z : qZ} (hn : 4 ≤ zn Z) (hl : 96 ≤ zl Z) {n : Nat} {l0 : Nat} {M : PM} (h : F_XModel_equal_43 n l0 M = some (zr Z, zf Z)) : EW Y_XModel_equal g X Z 43 [(0, .ref l0)] [] M := by
  unfold F_XModel_equal_43 at h
  refine ew_aload_n 0 d_XModel_equal_43 rfl rfl ?_
  refine ew_iconst (2) d_XModel_equal_44 (by decide) ?_
  obtain ⟨kM1, h⟩ := kO_inv h
  obtain ⟨v2, M1, hM1, h⟩ := cI_inv h
  refine ew_callV 0 [.int (2 : Int32)] d_XModel_equal_45 cv_XModel_111 (T_XModel_fail hM1) kM1 (Nat.le_trans (Nat.le_of_ble_eq_true rfl) hn) (Nat.le_trans (Nat.le_of_ble_eq_true rfl) hl) (Nat.le_of_ble_eq_true rfl) rfl rfl ?_
  obtain ⟨hz, hm⟩ := Prod.mk.inj (Option.some.inj h)
  exact ew_ireturn d_XModel_equal_48 rfl hz.symm hm.symm
def F_XModel_equal (n : Nat) (l0 : Nat) (l1 : Int32) (l2 : Int32) (M : PM) : qO :=
  pF 0 M l0 0 (.int (0 : Int32)) (fun M1 =>
  kO 0 M1 l0 (
  cI (F_XModel_isNode n l0 l1 M1) (fun v3 M2 =>
  if v3 = (0 : Int32) then
    F_XModel_equal_21 n l0 M2
  else
    kO 0 M2 l0 (
    cI (F_XModel_isNode n l0 l2 M2) (fun v6 M5 =>
    if v6 = (0 : Int32) then
      F_XModel_equal_21 n l0 M5
    else
      kO 0 M5 l0 (
      cI (F_XModel_isWord n l0 l1 M5) (fun v9 M8 =>
      if v9 = (0 : Int32) then
        F_XModel_equal_43 n l0 M8
      else
        kO 0 M8 l0 (
        cI (F_XModel_isWord n l0 l2 M8) (fun v12 M11 =>
        if v12 = (0 : Int32) then
          F_XModel_equal_43 n l0 M11
        else
          kO 0 M11 l0 (
          cI (F_XModel_told n l0 (6 : Int32) l1 l2 (-1 : Int32) (3 : Int32) M11) (fun v15 M14 =>
          some (.inl (some (.int v15)), M14))))))))))))
set_option maxHeartbeats 4000000 in
set_option maxRecDepth 100000 in
theorem E_XModel_equal {g : qG} {X : qX} {Z : qZ} (hn : 4 ≤ zn Z) (hl : 96 ≤ zl Z) {n : Nat} {l0 : Nat} {l1 : Int32} {l2 : Int32} {M : PM} (h : F_XModel_equal n l0 l1 l2 M = some (zr Z, zf Z)) : EW Y_XModel_equal g X Z 0 [(0, .ref l0), (1, .int l1), (2, .int l2)] [] M := by
  unfold F_XModel_equal at h
  refine ew_aload_n 0 d_XModel_equal_0 rfl rfl ?_
  refine ew_iconst (0) d_XModel_equal_1 (by decide) ?_
  obtain ⟨M1, aM1, eM1, h⟩ := pF_inv h
  refine ew_pF 0 0 d_XModel_equal_2 fl_XModel_87 aM1 eM1 (fun ad => ⟨rfl, rfl⟩) ?_
  refine ew_aload_n 0 d_XModel_equal_5 rfl rfl ?_
  refine ew_iload_n 1 d_XModel_equal_6 rfl rfl ?_
  obtain ⟨kM2, h⟩ := kO_inv h
  obtain ⟨v3, M2, hM2, h⟩ := cI_inv h
  refine ew_callV 0 [.int l1] d_XModel_equal_7 cv_XModel_125 (T_XModel_isNode hM2) kM2 (Nat.le_trans (Nat.le_of_ble_eq_true rfl) hn) (Nat.le_trans (Nat.le_of_ble_eq_true rfl) hl) (Nat.le_of_ble_eq_true rfl) rfl rfl ?_
  refine ew_if_eq 21 d_XModel_equal_10 (by decide) (fun c4 => ?_) (fun c4 => ?_)
  · rw [if_pos c4] at h
    exact ew_pick (L' := [(0, .ref l0)]) [0] rfl (E_XModel_equal_21 hn hl h)
  · rw [if_neg c4] at h
    refine ew_aload_n 0 d_XModel_equal_13 rfl rfl ?_
    refine ew_iload_n 2 d_XModel_equal_14 rfl rfl ?_
    obtain ⟨kM5, h⟩ := kO_inv h
    obtain ⟨v6, M5, hM5, h⟩ := cI_inv h
    refine ew_callV 0 [.int l2] d_XModel_equal_15 cv_XModel_125 (T_XModel_isNode hM5) kM5 (Nat.le_trans (Nat.le_of_ble_eq_true rfl) hn) (Nat.le_trans (Nat.le_of_ble_eq_true rfl) hl) (Nat.le_of_ble_eq_true rfl) rfl rfl ?_
    refine ew_if_ne 27 d_XModel_equal_18 (by decide) (fun c7 => ?_) (fun c7 => ?_)
    · rw [if_neg c7] at h
      refine ew_aload_n 0 d_XModel_equal_27 rfl rfl ?_
      refine ew_iload_n 1 d_XModel_equal_28 rfl rfl ?_
      obtain ⟨kM8, h⟩ := kO_inv h
      obtain ⟨v9, M8, hM8, h⟩ := cI_inv h
      refine ew_callV 0 [.int l1] d_XModel_equal_29 cv_XModel_129 (T_XModel_isWord hM8) kM8 (Nat.le_trans (Nat.le_of_ble_eq_true rfl) hn) (Nat.le_trans (Nat.le_of_ble_eq_true rfl) hl) (Nat.le_of_ble_eq_true rfl) rfl rfl ?_
      refine ew_if_eq 43 d_XModel_equal_32 (by decide) (fun c10 => ?_) (fun c10 => ?_)
      · rw [if_pos c10] at h
        exact ew_pick (L' := [(0, .ref l0)]) [0] rfl (E_XModel_equal_43 hn hl h)
      · rw [if_neg c10] at h
        refine ew_aload_n 0 d_XModel_equal_35 rfl rfl ?_
        refine ew_iload_n 2 d_XModel_equal_36 rfl rfl ?_
        obtain ⟨kM11, h⟩ := kO_inv h
        obtain ⟨v12, M11, hM11, h⟩ := cI_inv h
        refine ew_callV 0 [.int l2] d_XModel_equal_37 cv_XModel_129 (T_XModel_isWord hM11) kM11 (Nat.le_trans (Nat.le_of_ble_eq_true rfl) hn) (Nat.le_trans (Nat.le_of_ble_eq_true rfl) hl) (Nat.le_of_ble_eq_true rfl) rfl rfl ?_
        refine ew_if_ne 49 d_XModel_equal_40 (by decide) (fun c13 => ?_) (fun c13 => ?_)
        · rw [if_neg c13] at h
          refine ew_aload_n 0 d_XModel_equal_49 rfl rfl ?_
          refine ew_bipush (6) d_XModel_equal_50 (by decide +kernel) ?_
          refine ew_iload_n 1 d_XModel_equal_52 rfl rfl ?_
          refine ew_iload_n 2 d_XModel_equal_53 rfl rfl ?_
          refine ew_iconst (-1) d_XModel_equal_54 (by decide) ?_
          refine ew_iconst (3) d_XModel_equal_55 (by decide) ?_
          obtain ⟨kM14, h⟩ := kO_inv h
          obtain ⟨v15, M14, hM14, h⟩ := cI_inv h
          refine ew_callV 0 [.int (6 : Int32), .int l1, .int l2, .int (-1 : Int32), .int (3 : Int32)] d_XModel_equal_56 cv_XModel_132 (T_XModel_told hM14) kM14 (Nat.le_trans (Nat.le_of_ble_eq_true rfl) hn) (Nat.le_trans (Nat.le_of_ble_eq_true rfl) hl) (Nat.le_of_ble_eq_true rfl) rfl rfl ?_
          obtain ⟨hz, hm⟩ := Prod.mk.inj (Option.some.inj h)
          exact ew_ireturn d_XModel_equal_59 rfl hz.symm hm.symm
        · rw [if_pos c13] at h
          exact ew_pick (L' := [(0, .ref l0)]) [0] rfl (E_XModel_equal_43 hn hl h)
    · rw [if_pos c7] at h
      exact ew_pick (L' := [(0, .ref l0)]) [0] rfl (E_XModel_equal_21 hn hl h)
theorem T_XModel_equal {n : Nat} {l0 : Nat} {l1 : Int32} {l2 : Int32} {M Mf : PM} {res : qRs} (h : F_XModel_equal n l0 l1 l2 M = some (res, Mf)) : CT Y_XModel_equal 4 96 [.ref l0, .int l1, .int l2] M res Mf :=
  CT_of (by decide) (Nat.le_of_ble_eq_true rfl) (qHd_ne (by decide)) (fun g X ad0 => E_XModel_equal (g := g) (X := X) (Z := (ad0, M, res, Mf, 4, 96)) (Nat.le_refl _) (Nat.le_refl _) h)
theorem d_XModel_not_0 : decode Y_XModel_not.2.1 0 = .ok (.aload_n 0, 1) := by decide +kernel
theorem d_XModel_not_1 : decode Y_XModel_not.2.1 1 = .ok (.iconst 0, 1) := by decide +kernel
theorem d_XModel_not_2 : decode Y_XModel_not.2.1 2 = .ok (.putfield 87, 3) := by decide +kernel
theorem d_XModel_not_5 : decode Y_XModel_not.2.1 5 = .ok (.aload_n 0, 1) := by decide +kernel
theorem d_XModel_not_6 : decode Y_XModel_not.2.1 6 = .ok (.iload_n 1, 1) := by decide +kernel
theorem d_XModel_not_7 : decode Y_XModel_not.2.1 7 = .ok (.invokevirtual 125, 3) := by decide +kernel
theorem d_XModel_not_10 : decode Y_XModel_not.2.1 10 = .ok (.ifCond .ne (9), 3) := by decide +kernel
theorem d_XModel_not_13 : decode Y_XModel_not.2.1 13 = .ok (.aload_n 0, 1) := by decide +kernel
theorem d_XModel_not_14 : decode Y_XModel_not.2.1 14 = .ok (.iconst 1, 1) := by decide +kernel
theorem d_XModel_not_15 : decode Y_XModel_not.2.1 15 = .ok (.invokevirtual 111, 3) := by decide +kernel
theorem d_XModel_not_18 : decode Y_XModel_not.2.1 18 = .ok (.ireturn, 1) := by decide +kernel
theorem d_XModel_not_19 : decode Y_XModel_not.2.1 19 = .ok (.aload_n 0, 1) := by decide +kernel
theorem d_XModel_not_20 : decode Y_XModel_not.2.1 20 = .ok (.iload_n 1, 1) := by decide +kernel
theorem d_XModel_not_21 : decode Y_XModel_not.2.1 21 = .ok (.invokevirtual 129, 3) := by decide +kernel
theorem d_XModel_not_24 : decode Y_XModel_not.2.1 24 = .ok (.ifCond .eq (9), 3) := by decide +kernel
theorem d_XModel_not_27 : decode Y_XModel_not.2.1 27 = .ok (.aload_n 0, 1) := by decide +kernel
theorem d_XModel_not_28 : decode Y_XModel_not.2.1 28 = .ok (.iconst 2, 1) := by decide +kernel
theorem d_XModel_not_29 : decode Y_XModel_not.2.1 29 = .ok (.invokevirtual 111, 3) := by decide +kernel
theorem d_XModel_not_32 : decode Y_XModel_not.2.1 32 = .ok (.ireturn, 1) := by decide +kernel
theorem d_XModel_not_33 : decode Y_XModel_not.2.1 33 = .ok (.aload_n 0, 1) := by decide +kernel
theorem d_XModel_not_34 : decode Y_XModel_not.2.1 34 = .ok (.bipush (7), 2) := by decide +kernel
theorem d_XModel_not_36 : decode Y_XModel_not.2.1 36 = .ok (.iload_n 1, 1) := by decide +kernel
theorem d_XModel_not_37 : decode Y_XModel_not.2.1 37 = .ok (.iconst (-1), 1) := by decide +kernel
theorem d_XModel_not_38 : decode Y_XModel_not.2.1 38 = .ok (.iconst (-1), 1) := by decide +kernel
theorem d_XModel_not_39 : decode Y_XModel_not.2.1 39 = .ok (.iconst 3, 1) := by decide +kernel
theorem d_XModel_not_40 : decode Y_XModel_not.2.1 40 = .ok (.invokevirtual 132, 3) := by decide +kernel
theorem d_XModel_not_43 : decode Y_XModel_not.2.1 43 = .ok (.ireturn, 1) := by decide +kernel
def F_XModel_not (n : Nat) (l0 : Nat) (l1 : Int32) (M : PM) : qO :=
  pF 0 M l0 0 (.int (0 : Int32)) (fun M1 =>
  kO 0 M1 l0 (
  cI (F_XModel_isNode n l0 l1 M1) (fun v3 M2 =>
  if v3 = (0 : Int32) then
    kO 0 M2 l0 (
    cI (F_XModel_fail n l0 (1 : Int32) M2) (fun v13 M12 =>
    some (.inl (some (.int v13)), M12)))
  else
    kO 0 M2 l0 (
    cI (F_XModel_isWord n l0 l1 M2) (fun v6 M5 =>
    if v6 = (0 : Int32) then
      kO 0 M5 l0 (
      cI (F_XModel_told n l0 (7 : Int32) l1 (-1 : Int32) (-1 : Int32) (3 : Int32) M5) (fun v9 M8 =>
      some (.inl (some (.int v9)), M8)))
    else
      kO 0 M5 l0 (
      cI (F_XModel_fail n l0 (2 : Int32) M5) (fun v11 M10 =>
      some (.inl (some (.int v11)), M10))))))))
set_option maxHeartbeats 4000000 in
set_option maxRecDepth 100000 in
theorem E_XModel_not {g : qG} {X : qX} {Z : qZ} (hn : 4 ≤ zn Z) (hl : 96 ≤ zl Z) {n : Nat} {l0 : Nat} {l1 : Int32} {M : PM} (h : F_XModel_not n l0 l1 M = some (zr Z, zf Z)) : EW Y_XModel_not g X Z 0 [(0, .ref l0), (1, .int l1)] [] M := by
  unfold F_XModel_not at h
  refine ew_aload_n 0 d_XModel_not_0 rfl rfl ?_
  refine ew_iconst (0) d_XModel_not_1 (by decide) ?_
  obtain ⟨M1, aM1, eM1, h⟩ := pF_inv h
  refine ew_pF 0 0 d_XModel_not_2 fl_XModel_87 aM1 eM1 (fun ad => ⟨rfl, rfl⟩) ?_
  refine ew_aload_n 0 d_XModel_not_5 rfl rfl ?_
  refine ew_iload_n 1 d_XModel_not_6 rfl rfl ?_
  obtain ⟨kM2, h⟩ := kO_inv h
  obtain ⟨v3, M2, hM2, h⟩ := cI_inv h
  refine ew_callV 0 [.int l1] d_XModel_not_7 cv_XModel_125 (T_XModel_isNode hM2) kM2 (Nat.le_trans (Nat.le_of_ble_eq_true rfl) hn) (Nat.le_trans (Nat.le_of_ble_eq_true rfl) hl) (Nat.le_of_ble_eq_true rfl) rfl rfl ?_
  refine ew_if_ne 19 d_XModel_not_10 (by decide) (fun c4 => ?_) (fun c4 => ?_)
  · rw [if_neg c4] at h
    refine ew_aload_n 0 d_XModel_not_19 rfl rfl ?_
    refine ew_iload_n 1 d_XModel_not_20 rfl rfl ?_
    obtain ⟨kM5, h⟩ := kO_inv h
    obtain ⟨v6, M5, hM5, h⟩ := cI_inv h
    refine ew_callV 0 [.int l1] d_XModel_not_21 cv_XModel_129 (T_XModel_isWord hM5) kM5 (Nat.le_trans (Nat.le_of_ble_eq_true rfl) hn) (Nat.le_trans (Nat.le_of_ble_eq_true rfl) hl) (Nat.le_of_ble_eq_true rfl) rfl rfl ?_
    refine ew_if_eq 33 d_XModel_not_24 (by decide) (fun c7 => ?_) (fun c7 => ?_)
    · rw [if_pos c7] at h
      refine ew_aload_n 0 d_XModel_not_33 rfl rfl ?_
      refine ew_bipush (7) d_XModel_not_34 (by decide +kernel) ?_
      refine ew_iload_n 1 d_XModel_not_36 rfl rfl ?_
      refine ew_iconst (-1) d_XModel_not_37 (by decide) ?_
      refine ew_iconst (-1) d_XModel_not_38 (by decide) ?_
      refine ew_iconst (3) d_XModel_not_39 (by decide) ?_
      obtain ⟨kM8, h⟩ := kO_inv h
      obtain ⟨v9, M8, hM8, h⟩ := cI_inv h
      refine ew_callV 0 [.int (7 : Int32), .int l1, .int (-1 : Int32), .int (-1 : Int32), .int (3 : Int32)] d_XModel_not_40 cv_XModel_132 (T_XModel_told hM8) kM8 (Nat.le_trans (Nat.le_of_ble_eq_true rfl) hn) (Nat.le_trans (Nat.le_of_ble_eq_true rfl) hl) (Nat.le_of_ble_eq_true rfl) rfl rfl ?_
      obtain ⟨hz, hm⟩ := Prod.mk.inj (Option.some.inj h)
      exact ew_ireturn d_XModel_not_43 rfl hz.symm hm.symm
    · rw [if_neg c7] at h
      refine ew_aload_n 0 d_XModel_not_27 rfl rfl ?_
      refine ew_iconst (2) d_XModel_not_28 (by decide) ?_
      obtain ⟨kM10, h⟩ := kO_inv h
      obtain ⟨v11, M10, hM10, h⟩ := cI_inv h
      refine ew_callV 0 [.int (2 : Int32)] d_XModel_not_29 cv_XModel_111 (T_XModel_fail hM10) kM10 (Nat.le_trans (Nat.le_of_ble_eq_true rfl) hn) (Nat.le_trans (Nat.le_of_ble_eq_true rfl) hl) (Nat.le_of_ble_eq_true rfl) rfl rfl ?_
      obtain ⟨hz, hm⟩ := Prod.mk.inj (Option.some.inj h)
      exact ew_ireturn d_XModel_not_32 rfl hz.symm hm.symm
  · rw [if_pos c4] at h
    refine ew_aload_n 0 d_XModel_not_13 rfl rfl ?_
    refine ew_iconst (1) d_XModel_not_14 (by decide) ?_
    obtain ⟨kM12, h⟩ := kO_inv h
    obtain ⟨v13, M12, hM12, h⟩ := cI_inv h
    refine ew_callV 0 [.int (1 : Int32)] d_XModel_not_15 cv_XModel_111 (T_XModel_fail hM12) kM12 (Nat.le_trans (Nat.le_of_ble_eq_true rfl) hn) (Nat.le_trans (Nat.le_of_ble_eq_true rfl) hl) (Nat.le_of_ble_eq_true rfl) rfl rfl ?_
    obtain ⟨hz, hm⟩ := Prod.mk.inj (Option.some.inj h)
    exact ew_ireturn d_XModel_not_18 rfl hz.symm hm.symm
theorem T_XModel_not {n : Nat} {l0 : Nat} {l1 : Int32} {M Mf : PM} {res : qRs} (h : F_XModel_not n l0 l1 M = some (res, Mf)) : CT Y_XModel_not 4 96 [.ref l0, .int l1] M res Mf :=
  CT_of (by decide) (Nat.le_of_ble_eq_true rfl) (qHd_ne (by decide)) (fun g X ad0 => E_XModel_not (g := g) (X := X) (Z := (ad0, M, res, Mf, 4, 96)) (Nat.le_refl _) (Nat.le_refl _) h)
theorem d_XModel_both_0 : decode Y_XModel_both.2.1 0 = .ok (.aload_n 0, 1) := by decide +kernel
theorem d_XModel_both_1 : decode Y_XModel_both.2.1 1 = .ok (.iconst 0, 1) := by decide +kernel
theorem d_XModel_both_2 : decode Y_XModel_both.2.1 2 = .ok (.putfield 87, 3) := by decide +kernel
theorem d_XModel_both_5 : decode Y_XModel_both.2.1 5 = .ok (.aload_n 0, 1) := by decide +kernel
theorem d_XModel_both_6 : decode Y_XModel_both.2.1 6 = .ok (.iload_n 1, 1) := by decide +kernel
theorem d_XModel_both_7 : decode Y_XModel_both.2.1 7 = .ok (.invokevirtual 125, 3) := by decide +kernel
theorem d_XModel_both_10 : decode Y_XModel_both.2.1 10 = .ok (.ifCond .eq (11), 3) := by decide +kernel
theorem d_XModel_both_13 : decode Y_XModel_both.2.1 13 = .ok (.aload_n 0, 1) := by decide +kernel
theorem d_XModel_both_14 : decode Y_XModel_both.2.1 14 = .ok (.iload_n 2, 1) := by decide +kernel
theorem d_XModel_both_15 : decode Y_XModel_both.2.1 15 = .ok (.invokevirtual 125, 3) := by decide +kernel
theorem d_XModel_both_18 : decode Y_XModel_both.2.1 18 = .ok (.ifCond .ne (9), 3) := by decide +kernel
theorem d_XModel_both_21 : decode Y_XModel_both.2.1 21 = .ok (.aload_n 0, 1) := by decide +kernel
theorem d_XModel_both_22 : decode Y_XModel_both.2.1 22 = .ok (.iconst 1, 1) := by decide +kernel
theorem d_XModel_both_23 : decode Y_XModel_both.2.1 23 = .ok (.invokevirtual 111, 3) := by decide +kernel
theorem d_XModel_both_26 : decode Y_XModel_both.2.1 26 = .ok (.ireturn, 1) := by decide +kernel
theorem d_XModel_both_27 : decode Y_XModel_both.2.1 27 = .ok (.aload_n 0, 1) := by decide +kernel
theorem d_XModel_both_28 : decode Y_XModel_both.2.1 28 = .ok (.iload_n 1, 1) := by decide +kernel
theorem d_XModel_both_29 : decode Y_XModel_both.2.1 29 = .ok (.invokevirtual 129, 3) := by decide +kernel
theorem d_XModel_both_32 : decode Y_XModel_both.2.1 32 = .ok (.ifCond .ne (11), 3) := by decide +kernel
theorem d_XModel_both_35 : decode Y_XModel_both.2.1 35 = .ok (.aload_n 0, 1) := by decide +kernel
theorem d_XModel_both_36 : decode Y_XModel_both.2.1 36 = .ok (.iload_n 2, 1) := by decide +kernel
theorem d_XModel_both_37 : decode Y_XModel_both.2.1 37 = .ok (.invokevirtual 129, 3) := by decide +kernel
theorem d_XModel_both_40 : decode Y_XModel_both.2.1 40 = .ok (.ifCond .eq (9), 3) := by decide +kernel
theorem d_XModel_both_43 : decode Y_XModel_both.2.1 43 = .ok (.aload_n 0, 1) := by decide +kernel
theorem d_XModel_both_44 : decode Y_XModel_both.2.1 44 = .ok (.iconst 2, 1) := by decide +kernel
theorem d_XModel_both_45 : decode Y_XModel_both.2.1 45 = .ok (.invokevirtual 111, 3) := by decide +kernel
theorem d_XModel_both_48 : decode Y_XModel_both.2.1 48 = .ok (.ireturn, 1) := by decide +kernel
theorem d_XModel_both_49 : decode Y_XModel_both.2.1 49 = .ok (.aload_n 0, 1) := by decide +kernel
theorem d_XModel_both_50 : decode Y_XModel_both.2.1 50 = .ok (.bipush (8), 2) := by decide +kernel
theorem d_XModel_both_52 : decode Y_XModel_both.2.1 52 = .ok (.iload_n 1, 1) := by decide +kernel
theorem d_XModel_both_53 : decode Y_XModel_both.2.1 53 = .ok (.iload_n 2, 1) := by decide +kernel
theorem d_XModel_both_54 : decode Y_XModel_both.2.1 54 = .ok (.iconst (-1), 1) := by decide +kernel
theorem d_XModel_both_55 : decode Y_XModel_both.2.1 55 = .ok (.iconst 3, 1) := by decide +kernel
theorem d_XModel_both_56 : decode Y_XModel_both.2.1 56 = .ok (.invokevirtual 132, 3) := by decide +kernel
theorem d_XModel_both_59 : decode Y_XModel_both.2.1 59 = .ok (.ireturn, 1) := by decide +kernel
def F_XModel_both_21 (n : Nat) (l0 : Nat) (M : PM) : qO :=
  kO 0 M l0 (
  cI (F_XModel_fail n l0 (1 : Int32) M) (fun v2 M1 =>
  some (.inl (some (.int v2)), M1)))
set_option maxHeartbeats 4000000 in
set_option maxRecDepth 100000 in
theorem E_XModel_both_21 {g : qG} {X : qX} {Z : qZ} (hn : 4 ≤ zn Z) (hl : 96 ≤ zl Z) {n : Nat} {l0 : Nat} {M : PM} (h : F_XModel_both_21 n l0 M = some (zr Z, zf Z)) : EW Y_XModel_both g X Z 21 [(0, .ref l0)] [] M := by
  unfold F_XModel_both_21 at h
  refine ew_aload_n 0 d_XModel_both_21 rfl rfl ?_
  refine ew_iconst (1) d_XModel_both_22 (by decide) ?_
  obtain ⟨kM1, h⟩ := kO_inv h
  obtain ⟨v2, M1, hM1, h⟩ := cI_inv h
  refine ew_callV 0 [.int (1 : Int32)] d_XModel_both_23 cv_XModel_111 (T_XModel_fail hM1) kM1 (Nat.le_trans (Nat.le_of_ble_eq_true rfl) hn) (Nat.le_trans (Nat.le_of_ble_eq_true rfl) hl) (Nat.le_of_ble_eq_true rfl) rfl rfl ?_
  obtain ⟨hz, hm⟩ := Prod.mk.inj (Option.some.inj h)
  exact ew_ireturn d_XModel_both_26 rfl hz.symm hm.symm
def F_XModel_both_43 (n : Nat) (l0 : Nat) (M : PM) : qO :=
  kO 0 M l0 (
  cI (F_XModel_fail n l0 (2 : Int32) M) (fun v2 M1 =>
  some (.inl (some (.int v2)), M1)))
set_option maxHeartbeats 4000000 in
set_option maxRecDepth 100000 in
theorem E_XModel_both_43 {g : qG} {X : qX} {Z : qZ} (hn : 4 ≤ zn Z) (hl : 96 ≤ zl Z) {n : Nat} {l0 : Nat} {M : PM} (h : F_XModel_both_43 n l0 M = some (zr Z, zf Z)) : EW Y_XModel_both g X Z 43 [(0, .ref l0)] [] M := by
  unfold F_XModel_both_43 at h
  refine ew_aload_n 0 d_XModel_both_43 rfl rfl ?_
  refine ew_iconst (2) d_XModel_both_44 (by decide) ?_
  obtain ⟨kM1, h⟩ := kO_inv h
  obtain ⟨v2, M1, hM1, h⟩ := cI_inv h
  refine ew_callV 0 [.int (2 : Int32)] d_XModel_both_45 cv_XModel_111 (T_XModel_fail hM1) kM1 (Nat.le_trans (Nat.le_of_ble_eq_true rfl) hn) (Nat.le_trans (Nat.le_of_ble_eq_true rfl) hl) (Nat.le_of_ble_eq_true rfl) rfl rfl ?_
  obtain ⟨hz, hm⟩ := Prod.mk.inj (Option.some.inj h)
  exact ew_ireturn d_XModel_both_48 rfl hz.symm hm.symm
def F_XModel_both (n : Nat) (l0 : Nat) (l1 : Int32) (l2 : Int32) (M : PM) : qO :=
  pF 0 M l0 0 (.int (0 : Int32)) (fun M1 =>
  kO 0 M1 l0 (
  cI (F_XModel_isNode n l0 l1 M1) (fun v3 M2 =>
  if v3 = (0 : Int32) then
    F_XModel_both_21 n l0 M2
  else
    kO 0 M2 l0 (
    cI (F_XModel_isNode n l0 l2 M2) (fun v6 M5 =>
    if v6 = (0 : Int32) then
      F_XModel_both_21 n l0 M5
    else
      kO 0 M5 l0 (
      cI (F_XModel_isWord n l0 l1 M5) (fun v9 M8 =>
      if v9 = (0 : Int32) then
        kO 0 M8 l0 (
        cI (F_XModel_isWord n l0 l2 M8) (fun v12 M11 =>
        if v12 = (0 : Int32) then
          kO 0 M11 l0 (
          cI (F_XModel_told n l0 (8 : Int32) l1 l2 (-1 : Int32) (3 : Int32) M11) (fun v15 M14 =>
          some (.inl (some (.int v15)), M14)))
        else
          F_XModel_both_43 n l0 M11))
      else
        F_XModel_both_43 n l0 M8)))))))
set_option maxHeartbeats 4000000 in
set_option maxRecDepth 100000 in
theorem E_XModel_both {g : qG} {X : qX} {Z : qZ} (hn : 4 ≤ zn Z) (hl : 96 ≤ zl Z) {n : Nat} {l0 : Nat} {l1 : Int32} {l2 : Int32} {M : PM} (h : F_XModel_both n l0 l1 l2 M = some (zr Z, zf Z)) : EW Y_XModel_both g X Z 0 [(0, .ref l0), (1, .int l1), (2, .int l2)] [] M := by
  unfold F_XModel_both at h
  refine ew_aload_n 0 d_XModel_both_0 rfl rfl ?_
  refine ew_iconst (0) d_XModel_both_1 (by decide) ?_
  obtain ⟨M1, aM1, eM1, h⟩ := pF_inv h
  refine ew_pF 0 0 d_XModel_both_2 fl_XModel_87 aM1 eM1 (fun ad => ⟨rfl, rfl⟩) ?_
  refine ew_aload_n 0 d_XModel_both_5 rfl rfl ?_
  refine ew_iload_n 1 d_XModel_both_6 rfl rfl ?_
  obtain ⟨kM2, h⟩ := kO_inv h
  obtain ⟨v3, M2, hM2, h⟩ := cI_inv h
  refine ew_callV 0 [.int l1] d_XModel_both_7 cv_XModel_125 (T_XModel_isNode hM2) kM2 (Nat.le_trans (Nat.le_of_ble_eq_true rfl) hn) (Nat.le_trans (Nat.le_of_ble_eq_true rfl) hl) (Nat.le_of_ble_eq_true rfl) rfl rfl ?_
  refine ew_if_eq 21 d_XModel_both_10 (by decide) (fun c4 => ?_) (fun c4 => ?_)
  · rw [if_pos c4] at h
    exact ew_pick (L' := [(0, .ref l0)]) [0] rfl (E_XModel_both_21 hn hl h)
  · rw [if_neg c4] at h
    refine ew_aload_n 0 d_XModel_both_13 rfl rfl ?_
    refine ew_iload_n 2 d_XModel_both_14 rfl rfl ?_
    obtain ⟨kM5, h⟩ := kO_inv h
    obtain ⟨v6, M5, hM5, h⟩ := cI_inv h
    refine ew_callV 0 [.int l2] d_XModel_both_15 cv_XModel_125 (T_XModel_isNode hM5) kM5 (Nat.le_trans (Nat.le_of_ble_eq_true rfl) hn) (Nat.le_trans (Nat.le_of_ble_eq_true rfl) hl) (Nat.le_of_ble_eq_true rfl) rfl rfl ?_
    refine ew_if_ne 27 d_XModel_both_18 (by decide) (fun c7 => ?_) (fun c7 => ?_)
    · rw [if_neg c7] at h
      refine ew_aload_n 0 d_XModel_both_27 rfl rfl ?_
      refine ew_iload_n 1 d_XModel_both_28 rfl rfl ?_
      obtain ⟨kM8, h⟩ := kO_inv h
      obtain ⟨v9, M8, hM8, h⟩ := cI_inv h
      refine ew_callV 0 [.int l1] d_XModel_both_29 cv_XModel_129 (T_XModel_isWord hM8) kM8 (Nat.le_trans (Nat.le_of_ble_eq_true rfl) hn) (Nat.le_trans (Nat.le_of_ble_eq_true rfl) hl) (Nat.le_of_ble_eq_true rfl) rfl rfl ?_
      refine ew_if_ne 43 d_XModel_both_32 (by decide) (fun c10 => ?_) (fun c10 => ?_)
      · rw [if_neg c10] at h
        exact ew_pick (L' := [(0, .ref l0)]) [0] rfl (E_XModel_both_43 hn hl h)
      · rw [if_pos c10] at h
        refine ew_aload_n 0 d_XModel_both_35 rfl rfl ?_
        refine ew_iload_n 2 d_XModel_both_36 rfl rfl ?_
        obtain ⟨kM11, h⟩ := kO_inv h
        obtain ⟨v12, M11, hM11, h⟩ := cI_inv h
        refine ew_callV 0 [.int l2] d_XModel_both_37 cv_XModel_129 (T_XModel_isWord hM11) kM11 (Nat.le_trans (Nat.le_of_ble_eq_true rfl) hn) (Nat.le_trans (Nat.le_of_ble_eq_true rfl) hl) (Nat.le_of_ble_eq_true rfl) rfl rfl ?_
        refine ew_if_eq 49 d_XModel_both_40 (by decide) (fun c13 => ?_) (fun c13 => ?_)
        · rw [if_pos c13] at h
          refine ew_aload_n 0 d_XModel_both_49 rfl rfl ?_
          refine ew_bipush (8) d_XModel_both_50 (by decide +kernel) ?_
          refine ew_iload_n 1 d_XModel_both_52 rfl rfl ?_
          refine ew_iload_n 2 d_XModel_both_53 rfl rfl ?_
          refine ew_iconst (-1) d_XModel_both_54 (by decide) ?_
          refine ew_iconst (3) d_XModel_both_55 (by decide) ?_
          obtain ⟨kM14, h⟩ := kO_inv h
          obtain ⟨v15, M14, hM14, h⟩ := cI_inv h
          refine ew_callV 0 [.int (8 : Int32), .int l1, .int l2, .int (-1 : Int32), .int (3 : Int32)] d_XModel_both_56 cv_XModel_132 (T_XModel_told hM14) kM14 (Nat.le_trans (Nat.le_of_ble_eq_true rfl) hn) (Nat.le_trans (Nat.le_of_ble_eq_true rfl) hl) (Nat.le_of_ble_eq_true rfl) rfl rfl ?_
          obtain ⟨hz, hm⟩ := Prod.mk.inj (Option.some.inj h)
          exact ew_ireturn d_XModel_both_59 rfl hz.symm hm.symm
        · rw [if_neg c13] at h
          exact ew_pick (L' := [(0, .ref l0)]) [0] rfl (E_XModel_both_43 hn hl h)
    · rw [if_pos c7] at h
      exact ew_pick (L' := [(0, .ref l0)]) [0] rfl (E_XModel_both_21 hn hl h)
theorem T_XModel_both {n : Nat} {l0 : Nat} {l1 : Int32} {l2 : Int32} {M Mf : PM} {res : qRs} (h : F_XModel_both n l0 l1 l2 M = some (res, Mf)) : CT Y_XModel_both 4 96 [.ref l0, .int l1, .int l2] M res Mf :=
  CT_of (by decide) (Nat.le_of_ble_eq_true rfl) (qHd_ne (by decide)) (fun g X ad0 => E_XModel_both (g := g) (X := X) (Z := (ad0, M, res, Mf, 4, 96)) (Nat.le_refl _) (Nat.le_refl _) h)
theorem d_XModel_choice_0 : decode Y_XModel_choice.2.1 0 = .ok (.aload_n 0, 1) := by decide +kernel
theorem d_XModel_choice_1 : decode Y_XModel_choice.2.1 1 = .ok (.iconst 0, 1) := by decide +kernel
theorem d_XModel_choice_2 : decode Y_XModel_choice.2.1 2 = .ok (.putfield 87, 3) := by decide +kernel
theorem d_XModel_choice_5 : decode Y_XModel_choice.2.1 5 = .ok (.aload_n 0, 1) := by decide +kernel
theorem d_XModel_choice_6 : decode Y_XModel_choice.2.1 6 = .ok (.iload_n 1, 1) := by decide +kernel
theorem d_XModel_choice_7 : decode Y_XModel_choice.2.1 7 = .ok (.invokevirtual 125, 3) := by decide +kernel
theorem d_XModel_choice_10 : decode Y_XModel_choice.2.1 10 = .ok (.ifCond .eq (19), 3) := by decide +kernel
theorem d_XModel_choice_13 : decode Y_XModel_choice.2.1 13 = .ok (.aload_n 0, 1) := by decide +kernel
theorem d_XModel_choice_14 : decode Y_XModel_choice.2.1 14 = .ok (.iload_n 2, 1) := by decide +kernel
theorem d_XModel_choice_15 : decode Y_XModel_choice.2.1 15 = .ok (.invokevirtual 125, 3) := by decide +kernel
theorem d_XModel_choice_18 : decode Y_XModel_choice.2.1 18 = .ok (.ifCond .eq (11), 3) := by decide +kernel
theorem d_XModel_choice_21 : decode Y_XModel_choice.2.1 21 = .ok (.aload_n 0, 1) := by decide +kernel
theorem d_XModel_choice_22 : decode Y_XModel_choice.2.1 22 = .ok (.iload_n 3, 1) := by decide +kernel
theorem d_XModel_choice_23 : decode Y_XModel_choice.2.1 23 = .ok (.invokevirtual 125, 3) := by decide +kernel
theorem d_XModel_choice_26 : decode Y_XModel_choice.2.1 26 = .ok (.ifCond .ne (9), 3) := by decide +kernel
theorem d_XModel_choice_29 : decode Y_XModel_choice.2.1 29 = .ok (.aload_n 0, 1) := by decide +kernel
theorem d_XModel_choice_30 : decode Y_XModel_choice.2.1 30 = .ok (.iconst 1, 1) := by decide +kernel
theorem d_XModel_choice_31 : decode Y_XModel_choice.2.1 31 = .ok (.invokevirtual 111, 3) := by decide +kernel
theorem d_XModel_choice_34 : decode Y_XModel_choice.2.1 34 = .ok (.ireturn, 1) := by decide +kernel
theorem d_XModel_choice_35 : decode Y_XModel_choice.2.1 35 = .ok (.aload_n 0, 1) := by decide +kernel
theorem d_XModel_choice_36 : decode Y_XModel_choice.2.1 36 = .ok (.iload_n 1, 1) := by decide +kernel
theorem d_XModel_choice_37 : decode Y_XModel_choice.2.1 37 = .ok (.invokevirtual 129, 3) := by decide +kernel
theorem d_XModel_choice_40 : decode Y_XModel_choice.2.1 40 = .ok (.ifCond .ne (16), 3) := by decide +kernel
theorem d_XModel_choice_43 : decode Y_XModel_choice.2.1 43 = .ok (.aload_n 0, 1) := by decide +kernel
theorem d_XModel_choice_44 : decode Y_XModel_choice.2.1 44 = .ok (.iload_n 2, 1) := by decide +kernel
theorem d_XModel_choice_45 : decode Y_XModel_choice.2.1 45 = .ok (.invokevirtual 129, 3) := by decide +kernel
theorem d_XModel_choice_48 : decode Y_XModel_choice.2.1 48 = .ok (.aload_n 0, 1) := by decide +kernel
theorem d_XModel_choice_49 : decode Y_XModel_choice.2.1 49 = .ok (.iload_n 3, 1) := by decide +kernel
theorem d_XModel_choice_50 : decode Y_XModel_choice.2.1 50 = .ok (.invokevirtual 129, 3) := by decide +kernel
theorem d_XModel_choice_53 : decode Y_XModel_choice.2.1 53 = .ok (.if_icmp .eq (9), 3) := by decide +kernel
theorem d_XModel_choice_56 : decode Y_XModel_choice.2.1 56 = .ok (.aload_n 0, 1) := by decide +kernel
theorem d_XModel_choice_57 : decode Y_XModel_choice.2.1 57 = .ok (.iconst 2, 1) := by decide +kernel
theorem d_XModel_choice_58 : decode Y_XModel_choice.2.1 58 = .ok (.invokevirtual 111, 3) := by decide +kernel
theorem d_XModel_choice_61 : decode Y_XModel_choice.2.1 61 = .ok (.ireturn, 1) := by decide +kernel
theorem d_XModel_choice_62 : decode Y_XModel_choice.2.1 62 = .ok (.aload_n 0, 1) := by decide +kernel
theorem d_XModel_choice_63 : decode Y_XModel_choice.2.1 63 = .ok (.bipush (9), 2) := by decide +kernel
theorem d_XModel_choice_65 : decode Y_XModel_choice.2.1 65 = .ok (.iload_n 1, 1) := by decide +kernel
theorem d_XModel_choice_66 : decode Y_XModel_choice.2.1 66 = .ok (.iload_n 2, 1) := by decide +kernel
theorem d_XModel_choice_67 : decode Y_XModel_choice.2.1 67 = .ok (.iload_n 3, 1) := by decide +kernel
theorem d_XModel_choice_68 : decode Y_XModel_choice.2.1 68 = .ok (.iconst 3, 1) := by decide +kernel
theorem d_XModel_choice_69 : decode Y_XModel_choice.2.1 69 = .ok (.invokevirtual 132, 3) := by decide +kernel
theorem d_XModel_choice_72 : decode Y_XModel_choice.2.1 72 = .ok (.ireturn, 1) := by decide +kernel
def F_XModel_choice_29 (n : Nat) (l0 : Nat) (M : PM) : qO :=
  kO 0 M l0 (
  cI (F_XModel_fail n l0 (1 : Int32) M) (fun v2 M1 =>
  some (.inl (some (.int v2)), M1)))
set_option maxHeartbeats 4000000 in
set_option maxRecDepth 100000 in
theorem E_XModel_choice_29 {g : qG} {X : qX} {Z : qZ} (hn : 4 ≤ zn Z) (hl : 96 ≤ zl Z) {n : Nat} {l0 : Nat} {M : PM} (h : F_XModel_choice_29 n l0 M = some (zr Z, zf Z)) : EW Y_XModel_choice g X Z 29 [(0, .ref l0)] [] M := by
  unfold F_XModel_choice_29 at h
  refine ew_aload_n 0 d_XModel_choice_29 rfl rfl ?_
  refine ew_iconst (1) d_XModel_choice_30 (by decide) ?_
  obtain ⟨kM1, h⟩ := kO_inv h
  obtain ⟨v2, M1, hM1, h⟩ := cI_inv h
  refine ew_callV 0 [.int (1 : Int32)] d_XModel_choice_31 cv_XModel_111 (T_XModel_fail hM1) kM1 (Nat.le_trans (Nat.le_of_ble_eq_true rfl) hn) (Nat.le_trans (Nat.le_of_ble_eq_true rfl) hl) (Nat.le_of_ble_eq_true rfl) rfl rfl ?_
  obtain ⟨hz, hm⟩ := Prod.mk.inj (Option.some.inj h)
  exact ew_ireturn d_XModel_choice_34 rfl hz.symm hm.symm
def F_XModel_choice_56 (n : Nat) (l0 : Nat) (M : PM) : qO :=
  kO 0 M l0 (
  cI (F_XModel_fail n l0 (2 : Int32) M) (fun v2 M1 =>
  some (.inl (some (.int v2)), M1)))
set_option maxHeartbeats 4000000 in
set_option maxRecDepth 100000 in
theorem E_XModel_choice_56 {g : qG} {X : qX} {Z : qZ} (hn : 4 ≤ zn Z) (hl : 96 ≤ zl Z) {n : Nat} {l0 : Nat} {M : PM} (h : F_XModel_choice_56 n l0 M = some (zr Z, zf Z)) : EW Y_XModel_choice g X Z 56 [(0, .ref l0)] [] M := by
  unfold F_XModel_choice_56 at h
  refine ew_aload_n 0 d_XModel_choice_56 rfl rfl ?_
  refine ew_iconst (2) d_XModel_choice_57 (by decide) ?_
  obtain ⟨kM1, h⟩ := kO_inv h
  obtain ⟨v2, M1, hM1, h⟩ := cI_inv h
  refine ew_callV 0 [.int (2 : Int32)] d_XModel_choice_58 cv_XModel_111 (T_XModel_fail hM1) kM1 (Nat.le_trans (Nat.le_of_ble_eq_true rfl) hn) (Nat.le_trans (Nat.le_of_ble_eq_true rfl) hl) (Nat.le_of_ble_eq_true rfl) rfl rfl ?_
  obtain ⟨hz, hm⟩ := Prod.mk.inj (Option.some.inj h)
  exact ew_ireturn d_XModel_choice_61 rfl hz.symm hm.symm
def F_XModel_choice (n : Nat) (l0 : Nat) (l1 : Int32) (l2 : Int32) (l3 : Int32) (M : PM) : qO :=
  pF 0 M l0 0 (.int (0 : Int32)) (fun M1 =>
  kO 0 M1 l0 (
  cI (F_XModel_isNode n l0 l1 M1) (fun v3 M2 =>
  if v3 = (0 : Int32) then
    F_XModel_choice_29 n l0 M2
  else
    kO 0 M2 l0 (
    cI (F_XModel_isNode n l0 l2 M2) (fun v6 M5 =>
    if v6 = (0 : Int32) then
      F_XModel_choice_29 n l0 M5
    else
      kO 0 M5 l0 (
      cI (F_XModel_isNode n l0 l3 M5) (fun v9 M8 =>
      if v9 = (0 : Int32) then
        F_XModel_choice_29 n l0 M8
      else
        kO 0 M8 l0 (
        cI (F_XModel_isWord n l0 l1 M8) (fun v12 M11 =>
        if v12 = (0 : Int32) then
          kO 0 M11 l0 (
          cI (F_XModel_isWord n l0 l2 M11) (fun v15 M14 =>
          kO 0 M14 l0 (
          cI (F_XModel_isWord n l0 l3 M14) (fun v17 M16 =>
          if v15 = v17 then
            kO 0 M16 l0 (
            cI (F_XModel_told n l0 (9 : Int32) l1 l2 l3 (3 : Int32) M16) (fun v20 M19 =>
            some (.inl (some (.int v20)), M19)))
          else
            F_XModel_choice_56 n l0 M16))))
        else
          F_XModel_choice_56 n l0 M11)))))))))
set_option maxHeartbeats 4000000 in
set_option maxRecDepth 100000 in
theorem E_XModel_choice {g : qG} {X : qX} {Z : qZ} (hn : 4 ≤ zn Z) (hl : 96 ≤ zl Z) {n : Nat} {l0 : Nat} {l1 : Int32} {l2 : Int32} {l3 : Int32} {M : PM} (h : F_XModel_choice n l0 l1 l2 l3 M = some (zr Z, zf Z)) : EW Y_XModel_choice g X Z 0 [(0, .ref l0), (1, .int l1), (2, .int l2), (3, .int l3)] [] M := by
  unfold F_XModel_choice at h
  refine ew_aload_n 0 d_XModel_choice_0 rfl rfl ?_
  refine ew_iconst (0) d_XModel_choice_1 (by decide) ?_
  obtain ⟨M1, aM1, eM1, h⟩ := pF_inv h
  refine ew_pF 0 0 d_XModel_choice_2 fl_XModel_87 aM1 eM1 (fun ad => ⟨rfl, rfl⟩) ?_
  refine ew_aload_n 0 d_XModel_choice_5 rfl rfl ?_
  refine ew_iload_n 1 d_XModel_choice_6 rfl rfl ?_
  obtain ⟨kM2, h⟩ := kO_inv h
  obtain ⟨v3, M2, hM2, h⟩ := cI_inv h
  refine ew_callV 0 [.int l1] d_XModel_choice_7 cv_XModel_125 (T_XModel_isNode hM2) kM2 (Nat.le_trans (Nat.le_of_ble_eq_true rfl) hn) (Nat.le_trans (Nat.le_of_ble_eq_true rfl) hl) (Nat.le_of_ble_eq_true rfl) rfl rfl ?_
  refine ew_if_eq 29 d_XModel_choice_10 (by decide) (fun c4 => ?_) (fun c4 => ?_)
  · rw [if_pos c4] at h
    exact ew_pick (L' := [(0, .ref l0)]) [0] rfl (E_XModel_choice_29 hn hl h)
  · rw [if_neg c4] at h
    refine ew_aload_n 0 d_XModel_choice_13 rfl rfl ?_
    refine ew_iload_n 2 d_XModel_choice_14 rfl rfl ?_
    obtain ⟨kM5, h⟩ := kO_inv h
    obtain ⟨v6, M5, hM5, h⟩ := cI_inv h
    refine ew_callV 0 [.int l2] d_XModel_choice_15 cv_XModel_125 (T_XModel_isNode hM5) kM5 (Nat.le_trans (Nat.le_of_ble_eq_true rfl) hn) (Nat.le_trans (Nat.le_of_ble_eq_true rfl) hl) (Nat.le_of_ble_eq_true rfl) rfl rfl ?_
    refine ew_if_eq 29 d_XModel_choice_18 (by decide) (fun c7 => ?_) (fun c7 => ?_)
    · rw [if_pos c7] at h
      exact ew_pick (L' := [(0, .ref l0)]) [0] rfl (E_XModel_choice_29 hn hl h)
    · rw [if_neg c7] at h
      refine ew_aload_n 0 d_XModel_choice_21 rfl rfl ?_
      refine ew_iload_n 3 d_XModel_choice_22 rfl rfl ?_
      obtain ⟨kM8, h⟩ := kO_inv h
      obtain ⟨v9, M8, hM8, h⟩ := cI_inv h
      refine ew_callV 0 [.int l3] d_XModel_choice_23 cv_XModel_125 (T_XModel_isNode hM8) kM8 (Nat.le_trans (Nat.le_of_ble_eq_true rfl) hn) (Nat.le_trans (Nat.le_of_ble_eq_true rfl) hl) (Nat.le_of_ble_eq_true rfl) rfl rfl ?_
      refine ew_if_ne 35 d_XModel_choice_26 (by decide) (fun c10 => ?_) (fun c10 => ?_)
      · rw [if_neg c10] at h
        refine ew_aload_n 0 d_XModel_choice_35 rfl rfl ?_
        refine ew_iload_n 1 d_XModel_choice_36 rfl rfl ?_
        obtain ⟨kM11, h⟩ := kO_inv h
        obtain ⟨v12, M11, hM11, h⟩ := cI_inv h
        refine ew_callV 0 [.int l1] d_XModel_choice_37 cv_XModel_129 (T_XModel_isWord hM11) kM11 (Nat.le_trans (Nat.le_of_ble_eq_true rfl) hn) (Nat.le_trans (Nat.le_of_ble_eq_true rfl) hl) (Nat.le_of_ble_eq_true rfl) rfl rfl ?_
        refine ew_if_ne 56 d_XModel_choice_40 (by decide) (fun c13 => ?_) (fun c13 => ?_)
        · rw [if_neg c13] at h
          exact ew_pick (L' := [(0, .ref l0)]) [0] rfl (E_XModel_choice_56 hn hl h)
        · rw [if_pos c13] at h
          refine ew_aload_n 0 d_XModel_choice_43 rfl rfl ?_
          refine ew_iload_n 2 d_XModel_choice_44 rfl rfl ?_
          obtain ⟨kM14, h⟩ := kO_inv h
          obtain ⟨v15, M14, hM14, h⟩ := cI_inv h
          refine ew_callV 0 [.int l2] d_XModel_choice_45 cv_XModel_129 (T_XModel_isWord hM14) kM14 (Nat.le_trans (Nat.le_of_ble_eq_true rfl) hn) (Nat.le_trans (Nat.le_of_ble_eq_true rfl) hl) (Nat.le_of_ble_eq_true rfl) rfl rfl ?_
          refine ew_aload_n 0 d_XModel_choice_48 rfl rfl ?_
          refine ew_iload_n 3 d_XModel_choice_49 rfl rfl ?_
          obtain ⟨kM16, h⟩ := kO_inv h
          obtain ⟨v17, M16, hM16, h⟩ := cI_inv h
          refine ew_callV 0 [.int l3] d_XModel_choice_50 cv_XModel_129 (T_XModel_isWord hM16) kM16 (Nat.le_trans (Nat.le_of_ble_eq_true rfl) hn) (Nat.le_trans (Nat.le_of_ble_eq_true rfl) hl) (Nat.le_of_ble_eq_true rfl) rfl rfl ?_
          refine ew_icmp_eq 62 d_XModel_choice_53 (by decide) (fun c18 => ?_) (fun c18 => ?_)
          · rw [if_pos c18] at h
            refine ew_aload_n 0 d_XModel_choice_62 rfl rfl ?_
            refine ew_bipush (9) d_XModel_choice_63 (by decide +kernel) ?_
            refine ew_iload_n 1 d_XModel_choice_65 rfl rfl ?_
            refine ew_iload_n 2 d_XModel_choice_66 rfl rfl ?_
            refine ew_iload_n 3 d_XModel_choice_67 rfl rfl ?_
            refine ew_iconst (3) d_XModel_choice_68 (by decide) ?_
            obtain ⟨kM19, h⟩ := kO_inv h
            obtain ⟨v20, M19, hM19, h⟩ := cI_inv h
            refine ew_callV 0 [.int (9 : Int32), .int l1, .int l2, .int l3, .int (3 : Int32)] d_XModel_choice_69 cv_XModel_132 (T_XModel_told hM19) kM19 (Nat.le_trans (Nat.le_of_ble_eq_true rfl) hn) (Nat.le_trans (Nat.le_of_ble_eq_true rfl) hl) (Nat.le_of_ble_eq_true rfl) rfl rfl ?_
            obtain ⟨hz, hm⟩ := Prod.mk.inj (Option.some.inj h)
            exact ew_ireturn d_XModel_choice_72 rfl hz.symm hm.symm
          · rw [if_neg c18] at h
            exact ew_pick (L' := [(0, .ref l0)]) [0] rfl (E_XModel_choice_56 hn hl h)
      · rw [if_pos c10] at h
        exact ew_pick (L' := [(0, .ref l0)]) [0] rfl (E_XModel_choice_29 hn hl h)
theorem T_XModel_choice {n : Nat} {l0 : Nat} {l1 : Int32} {l2 : Int32} {l3 : Int32} {M Mf : PM} {res : qRs} (h : F_XModel_choice n l0 l1 l2 l3 M = some (res, Mf)) : CT Y_XModel_choice 4 96 [.ref l0, .int l1, .int l2, .int l3] M res Mf :=
  CT_of (by decide) (Nat.le_of_ble_eq_true rfl) (qHd_ne (by decide)) (fun g X ad0 => E_XModel_choice (g := g) (X := X) (Z := (ad0, M, res, Mf, 4, 96)) (Nat.le_refl _) (Nat.le_refl _) h)
theorem d_XModel_isElement_0 : decode Y_XModel_isElement.2.1 0 = .ok (.iload_n 1, 1) := by decide +kernel
theorem d_XModel_isElement_1 : decode Y_XModel_isElement.2.1 1 = .ok (.iconst 0, 1) := by decide +kernel
theorem d_XModel_isElement_2 : decode Y_XModel_isElement.2.1 2 = .ok (.aload_n 0, 1) := by decide +kernel
theorem d_XModel_isElement_3 : decode Y_XModel_isElement.2.1 3 = .ok (.getfield 119, 3) := by decide +kernel
theorem d_XModel_isElement_6 : decode Y_XModel_isElement.2.1 6 = .ok (.iconst 1, 1) := by decide +kernel
theorem d_XModel_isElement_7 : decode Y_XModel_isElement.2.1 7 = .ok (.isub, 1) := by decide +kernel
theorem d_XModel_isElement_8 : decode Y_XModel_isElement.2.1 8 = .ok (.invokestatic 115, 3) := by decide +kernel
theorem d_XModel_isElement_11 : decode Y_XModel_isElement.2.1 11 = .ok (.ireturn, 1) := by decide +kernel
def F_XModel_isElement (n : Nat) (l0 : Nat) (l1 : Int32) (M : PM) : qO :=
  gI 0 M l0 9 (fun v1 =>
  cI (F_XModel_within n l1 (0 : Int32) (v1 - (1 : Int32)) M) (fun v3 M2 =>
  rZ v3 M2))
set_option maxHeartbeats 4000000 in
set_option maxRecDepth 100000 in
theorem E_XModel_isElement {g : qG} {X : qX} {Z : qZ} (hn : 1 ≤ zn Z) (hl : 22 ≤ zl Z) {n : Nat} {l0 : Nat} {l1 : Int32} {M : PM} (h : F_XModel_isElement n l0 l1 M = some (zr Z, zf Z)) : EW Y_XModel_isElement g X Z 0 [(0, .ref l0), (1, .int l1)] [] M := by
  unfold F_XModel_isElement at h
  refine ew_iload_n 1 d_XModel_isElement_0 rfl rfl ?_
  refine ew_iconst (0) d_XModel_isElement_1 (by decide) ?_
  refine ew_aload_n 0 d_XModel_isElement_2 rfl rfl ?_
  obtain ⟨v1, av1, bv1, h⟩ := gI_inv h
  refine ew_gI 0 9 d_XModel_isElement_3 fl_XModel_119 av1 bv1 ?_
  refine ew_iconst (1) d_XModel_isElement_6 (by decide) ?_
  refine ew_isub d_XModel_isElement_7 ?_
  obtain ⟨v3, M2, hM2, h⟩ := cI_inv h
  refine ew_callS [.int l1, .int (0 : Int32), .int (v1 - (1 : Int32))] d_XModel_isElement_8 cs_XModel_115 (T_XModel_within hM2) (Nat.le_trans (Nat.le_of_ble_eq_true rfl) hn) (Nat.le_trans (Nat.le_of_ble_eq_true rfl) hl) (Nat.le_of_ble_eq_true rfl) rfl rfl ?_
  obtain ⟨hb, h⟩ := rZ_inv h
  obtain ⟨hz, hm⟩ := Prod.mk.inj (Option.some.inj h)
  exact ew_zreturn d_XModel_isElement_11 rfl hz.symm hm.symm hb
theorem T_XModel_isElement {n : Nat} {l0 : Nat} {l1 : Int32} {M Mf : PM} {res : qRs} (h : F_XModel_isElement n l0 l1 M = some (res, Mf)) : CT Y_XModel_isElement 1 22 [.ref l0, .int l1] M res Mf :=
  CT_of (by decide) (Nat.le_of_ble_eq_true rfl) (qHd_ne (by decide)) (fun g X ad0 => E_XModel_isElement (g := g) (X := X) (Z := (ad0, M, res, Mf, 1, 22)) (Nat.le_refl _) (Nat.le_refl _) h)
theorem d_XModel_isOfSort_0 : decode Y_XModel_isOfSort.2.1 0 = .ok (.aload_n 0, 1) := by decide +kernel
theorem d_XModel_isOfSort_1 : decode Y_XModel_isOfSort.2.1 1 = .ok (.iload_n 2, 1) := by decide +kernel
theorem d_XModel_isOfSort_2 : decode Y_XModel_isOfSort.2.1 2 = .ok (.invokevirtual 129, 3) := by decide +kernel
theorem d_XModel_isOfSort_5 : decode Y_XModel_isOfSort.2.1 5 = .ok (.aload_n 0, 1) := by decide +kernel
theorem d_XModel_isOfSort_6 : decode Y_XModel_isOfSort.2.1 6 = .ok (.getfield 13, 3) := by decide +kernel
theorem d_XModel_isOfSort_9 : decode Y_XModel_isOfSort.2.1 9 = .ok (.aload_n 0, 1) := by decide +kernel
theorem d_XModel_isOfSort_10 : decode Y_XModel_isOfSort.2.1 10 = .ok (.getfield 32, 3) := by decide +kernel
theorem d_XModel_isOfSort_13 : decode Y_XModel_isOfSort.2.1 13 = .ok (.iload_n 1, 1) := by decide +kernel
theorem d_XModel_isOfSort_14 : decode Y_XModel_isOfSort.2.1 14 = .ok (.iaload, 1) := by decide +kernel
theorem d_XModel_isOfSort_15 : decode Y_XModel_isOfSort.2.1 15 = .ok (.iaload, 1) := by decide +kernel
theorem d_XModel_isOfSort_16 : decode Y_XModel_isOfSort.2.1 16 = .ok (.iconst 3, 1) := by decide +kernel
theorem d_XModel_isOfSort_17 : decode Y_XModel_isOfSort.2.1 17 = .ok (.if_icmp .ne (7), 3) := by decide +kernel
theorem d_XModel_isOfSort_20 : decode Y_XModel_isOfSort.2.1 20 = .ok (.iconst 1, 1) := by decide +kernel
theorem d_XModel_isOfSort_21 : decode Y_XModel_isOfSort.2.1 21 = .ok (.goto (4), 3) := by decide +kernel
theorem d_XModel_isOfSort_24 : decode Y_XModel_isOfSort.2.1 24 = .ok (.iconst 0, 1) := by decide +kernel
theorem d_XModel_isOfSort_25 : decode Y_XModel_isOfSort.2.1 25 = .ok (.if_icmp .ne (7), 3) := by decide +kernel
theorem d_XModel_isOfSort_28 : decode Y_XModel_isOfSort.2.1 28 = .ok (.iconst 1, 1) := by decide +kernel
theorem d_XModel_isOfSort_29 : decode Y_XModel_isOfSort.2.1 29 = .ok (.goto (4), 3) := by decide +kernel
theorem d_XModel_isOfSort_32 : decode Y_XModel_isOfSort.2.1 32 = .ok (.iconst 0, 1) := by decide +kernel
theorem d_XModel_isOfSort_33 : decode Y_XModel_isOfSort.2.1 33 = .ok (.ireturn, 1) := by decide +kernel
def F_XModel_isOfSort_33 (n : Nat) (s0 : Int32) (M : PM) : qO :=
  rZ s0 M
set_option maxHeartbeats 4000000 in
set_option maxRecDepth 100000 in
theorem E_XModel_isOfSort_33 {g : qG} {X : qX} {Z : qZ} (hn : 1 ≤ zn Z) (hl : 22 ≤ zl Z) {n : Nat} {s0 : Int32} {M : PM} (h : F_XModel_isOfSort_33 n s0 M = some (zr Z, zf Z)) : EW Y_XModel_isOfSort g X Z 33 [] [.int s0] M := by
  unfold F_XModel_isOfSort_33 at h
  obtain ⟨hb, h⟩ := rZ_inv h
  obtain ⟨hz, hm⟩ := Prod.mk.inj (Option.some.inj h)
  exact ew_zreturn d_XModel_isOfSort_33 rfl hz.symm hm.symm hb
def F_XModel_isOfSort_25 (n : Nat) (s0 : Int32) (s1 : Int32) (M : PM) : qO :=
  if s0 = s1 then
    F_XModel_isOfSort_33 n (1 : Int32) M
  else
    F_XModel_isOfSort_33 n (0 : Int32) M
set_option maxHeartbeats 4000000 in
set_option maxRecDepth 100000 in
theorem E_XModel_isOfSort_25 {g : qG} {X : qX} {Z : qZ} (hn : 1 ≤ zn Z) (hl : 22 ≤ zl Z) {n : Nat} {s0 : Int32} {s1 : Int32} {M : PM} (h : F_XModel_isOfSort_25 n s0 s1 M = some (zr Z, zf Z)) : EW Y_XModel_isOfSort g X Z 25 [] [.int s1, .int s0] M := by
  unfold F_XModel_isOfSort_25 at h
  refine ew_icmp_ne 32 d_XModel_isOfSort_25 (by decide) (fun c1 => ?_) (fun c1 => ?_)
  · rw [if_neg c1] at h
    refine ew_iconst (0) d_XModel_isOfSort_32 (by decide) ?_
    exact E_XModel_isOfSort_33 hn hl h
  · rw [if_pos c1] at h
    refine ew_iconst (1) d_XModel_isOfSort_28 (by decide) ?_
    refine ew_goto 33 d_XModel_isOfSort_29 (by decide) ?_
    exact E_XModel_isOfSort_33 hn hl h
def F_XModel_isOfSort (n : Nat) (l0 : Nat) (l1 : Int32) (l2 : Int32) (M : PM) : qO :=
  kO 0 M l0 (
  cI (F_XModel_isWord n l0 l2 M) (fun v2 M1 =>
  gR 0 M1 l0 3 (fun v3 =>
  gR 0 M1 l0 11 (fun v4 =>
  lI M1 v4 l1 (fun v5 =>
  lI M1 v3 v5 (fun v6 =>
  if v6 = (3 : Int32) then
    F_XModel_isOfSort_25 n v2 (1 : Int32) M1
  else
    F_XModel_isOfSort_25 n v2 (0 : Int32) M1))))))
set_option maxHeartbeats 4000000 in
set_option maxRecDepth 100000 in
theorem E_XModel_isOfSort {g : qG} {X : qX} {Z : qZ} (hn : 1 ≤ zn Z) (hl : 22 ≤ zl Z) {n : Nat} {l0 : Nat} {l1 : Int32} {l2 : Int32} {M : PM} (h : F_XModel_isOfSort n l0 l1 l2 M = some (zr Z, zf Z)) : EW Y_XModel_isOfSort g X Z 0 [(0, .ref l0), (1, .int l1), (2, .int l2)] [] M := by
  unfold F_XModel_isOfSort at h
  refine ew_aload_n 0 d_XModel_isOfSort_0 rfl rfl ?_
  refine ew_iload_n 2 d_XModel_isOfSort_1 rfl rfl ?_
  obtain ⟨kM1, h⟩ := kO_inv h
  obtain ⟨v2, M1, hM1, h⟩ := cI_inv h
  refine ew_callV 0 [.int l2] d_XModel_isOfSort_2 cv_XModel_129 (T_XModel_isWord hM1) kM1 (Nat.le_trans (Nat.le_of_ble_eq_true rfl) hn) (Nat.le_trans (Nat.le_of_ble_eq_true rfl) hl) (Nat.le_of_ble_eq_true rfl) rfl rfl ?_
  refine ew_aload_n 0 d_XModel_isOfSort_5 rfl rfl ?_
  obtain ⟨v3, av3, bv3, h⟩ := gR_inv h
  refine ew_gR 0 3 d_XModel_isOfSort_6 fl_XModel_13 av3 bv3 ?_
  refine ew_aload_n 0 d_XModel_isOfSort_9 rfl rfl ?_
  obtain ⟨v4, av4, bv4, h⟩ := gR_inv h
  refine ew_gR 0 11 d_XModel_isOfSort_10 fl_XModel_32 av4 bv4 ?_
  refine ew_iload_n 1 d_XModel_isOfSort_13 rfl rfl ?_
  obtain ⟨v5, av5, bv5, cv5, ev5, h⟩ := lI_inv h
  refine ew_lI d_XModel_isOfSort_14 av5 bv5 cv5 ev5 ?_
  obtain ⟨v6, av6, bv6, cv6, ev6, h⟩ := lI_inv h
  refine ew_lI d_XModel_isOfSort_15 av6 bv6 cv6 ev6 ?_
  refine ew_iconst (3) d_XModel_isOfSort_16 (by decide) ?_
  refine ew_icmp_ne 24 d_XModel_isOfSort_17 (by decide) (fun c7 => ?_) (fun c7 => ?_)
  · rw [if_neg c7] at h
    refine ew_iconst (0) d_XModel_isOfSort_24 (by decide) ?_
    exact ew_pick (L' := []) [] rfl (E_XModel_isOfSort_25 hn hl h)
  · rw [if_pos c7] at h
    refine ew_iconst (1) d_XModel_isOfSort_20 (by decide) ?_
    refine ew_goto 25 d_XModel_isOfSort_21 (by decide) ?_
    exact ew_pick (L' := []) [] rfl (E_XModel_isOfSort_25 hn hl h)
theorem T_XModel_isOfSort {n : Nat} {l0 : Nat} {l1 : Int32} {l2 : Int32} {M Mf : PM} {res : qRs} (h : F_XModel_isOfSort n l0 l1 l2 M = some (res, Mf)) : CT Y_XModel_isOfSort 1 22 [.ref l0, .int l1, .int l2] M res Mf :=
  CT_of (by decide) (Nat.le_of_ble_eq_true rfl) (qHd_ne (by decide)) (fun g X ad0 => E_XModel_isOfSort (g := g) (X := X) (Z := (ad0, M, res, Mf, 1, 22)) (Nat.le_refl _) (Nat.le_refl _) h)
theorem d_XModel_next_0 : decode Y_XModel_next.2.1 0 = .ok (.aload_n 0, 1) := by decide +kernel
theorem d_XModel_next_1 : decode Y_XModel_next.2.1 1 = .ok (.aload_n 0, 1) := by decide +kernel
theorem d_XModel_next_2 : decode Y_XModel_next.2.1 2 = .ok (.iload_n 1, 1) := by decide +kernel
theorem d_XModel_next_3 : decode Y_XModel_next.2.1 3 = .ok (.invokevirtual 136, 3) := by decide +kernel
theorem d_XModel_next_6 : decode Y_XModel_next.2.1 6 = .ok (.ifCond .eq (11), 3) := by decide +kernel
theorem d_XModel_next_9 : decode Y_XModel_next.2.1 9 = .ok (.aload_n 0, 1) := by decide +kernel
theorem d_XModel_next_10 : decode Y_XModel_next.2.1 10 = .ok (.iload_n 2, 1) := by decide +kernel
theorem d_XModel_next_11 : decode Y_XModel_next.2.1 11 = .ok (.invokevirtual 125, 3) := by decide +kernel
theorem d_XModel_next_14 : decode Y_XModel_next.2.1 14 = .ok (.ifCond .ne (7), 3) := by decide +kernel
theorem d_XModel_next_17 : decode Y_XModel_next.2.1 17 = .ok (.iconst 1, 1) := by decide +kernel
theorem d_XModel_next_18 : decode Y_XModel_next.2.1 18 = .ok (.goto (17), 3) := by decide +kernel
theorem d_XModel_next_21 : decode Y_XModel_next.2.1 21 = .ok (.aload_n 0, 1) := by decide +kernel
theorem d_XModel_next_22 : decode Y_XModel_next.2.1 22 = .ok (.iload_n 1, 1) := by decide +kernel
theorem d_XModel_next_23 : decode Y_XModel_next.2.1 23 = .ok (.iload_n 2, 1) := by decide +kernel
theorem d_XModel_next_24 : decode Y_XModel_next.2.1 24 = .ok (.invokevirtual 139, 3) := by decide +kernel
theorem d_XModel_next_27 : decode Y_XModel_next.2.1 27 = .ok (.ifCond .eq (7), 3) := by decide +kernel
theorem d_XModel_next_30 : decode Y_XModel_next.2.1 30 = .ok (.iconst 0, 1) := by decide +kernel
theorem d_XModel_next_31 : decode Y_XModel_next.2.1 31 = .ok (.goto (4), 3) := by decide +kernel
theorem d_XModel_next_34 : decode Y_XModel_next.2.1 34 = .ok (.iconst 2, 1) := by decide +kernel
theorem d_XModel_next_35 : decode Y_XModel_next.2.1 35 = .ok (.putfield 87, 3) := by decide +kernel
theorem d_XModel_next_38 : decode Y_XModel_next.2.1 38 = .ok (.aload_n 0, 1) := by decide +kernel
theorem d_XModel_next_39 : decode Y_XModel_next.2.1 39 = .ok (.getfield 87, 3) := by decide +kernel
theorem d_XModel_next_42 : decode Y_XModel_next.2.1 42 = .ok (.ifCond .le (5), 3) := by decide +kernel
theorem d_XModel_next_45 : decode Y_XModel_next.2.1 45 = .ok (.iconst 0, 1) := by decide +kernel
theorem d_XModel_next_46 : decode Y_XModel_next.2.1 46 = .ok (.ireturn, 1) := by decide +kernel
theorem d_XModel_next_47 : decode Y_XModel_next.2.1 47 = .ok (.aload_n 0, 1) := by decide +kernel
theorem d_XModel_next_48 : decode Y_XModel_next.2.1 48 = .ok (.getfield 38, 3) := by decide +kernel
theorem d_XModel_next_51 : decode Y_XModel_next.2.1 51 = .ok (.iload_n 1, 1) := by decide +kernel
theorem d_XModel_next_52 : decode Y_XModel_next.2.1 52 = .ok (.baload, 1) := by decide +kernel
theorem d_XModel_next_53 : decode Y_XModel_next.2.1 53 = .ok (.istore_n 3, 1) := by decide +kernel
theorem d_XModel_next_54 : decode Y_XModel_next.2.1 54 = .ok (.aload_n 0, 1) := by decide +kernel
theorem d_XModel_next_55 : decode Y_XModel_next.2.1 55 = .ok (.getfield 35, 3) := by decide +kernel
theorem d_XModel_next_58 : decode Y_XModel_next.2.1 58 = .ok (.iload_n 1, 1) := by decide +kernel
theorem d_XModel_next_59 : decode Y_XModel_next.2.1 59 = .ok (.iload_n 2, 1) := by decide +kernel
theorem d_XModel_next_60 : decode Y_XModel_next.2.1 60 = .ok (.iastore, 1) := by decide +kernel
theorem d_XModel_next_61 : decode Y_XModel_next.2.1 61 = .ok (.aload_n 0, 1) := by decide +kernel
theorem d_XModel_next_62 : decode Y_XModel_next.2.1 62 = .ok (.getfield 38, 3) := by decide +kernel
theorem d_XModel_next_65 : decode Y_XModel_next.2.1 65 = .ok (.iload_n 1, 1) := by decide +kernel
theorem d_XModel_next_66 : decode Y_XModel_next.2.1 66 = .ok (.iconst 1, 1) := by decide +kernel
theorem d_XModel_next_67 : decode Y_XModel_next.2.1 67 = .ok (.bastore, 1) := by decide +kernel
theorem d_XModel_next_68 : decode Y_XModel_next.2.1 68 = .ok (.iload_n 3, 1) := by decide +kernel
theorem d_XModel_next_69 : decode Y_XModel_next.2.1 69 = .ok (.ireturn, 1) := by decide +kernel
def F_XModel_next_35 (n : Nat) (l0 : Nat) (l1 : Int32) (l2 : Int32) (s0 : Nat) (s1 : Int32) (M : PM) : qO :=
  pF 0 M s0 0 (.int s1) (fun M1 =>
  gI 0 M1 l0 0 (fun v2 =>
  if v2 ≤ (0 : Int32) then
    gR 0 M1 l0 13 (fun v4 =>
    lZ M1 v4 l1 (fun v5 =>
    gR 0 M1 l0 12 (fun v6 =>
    wI M1 v6 l1 l2 (fun M7 =>
    gR 0 M7 l0 13 (fun v8 =>
    wZ M7 v8 l1 (1 : Int32) (fun M9 =>
    rZ v5 M9))))))
  else
    some (.inl (some (.int (0 : Int32))), M1)))
set_option maxHeartbeats 4000000 in
set_option maxRecDepth 100000 in
theorem E_XModel_next_35 {g : qG} {X : qX} {Z : qZ} (hn : 2 ≤ zn Z) (hl : 44 ≤ zl Z) {n : Nat} {l0 : Nat} {l1 : Int32} {l2 : Int32} {s0 : Nat} {s1 : Int32} {M : PM} (h : F_XModel_next_35 n l0 l1 l2 s0 s1 M = some (zr Z, zf Z)) : EW Y_XModel_next g X Z 35 [(0, .ref l0), (1, .int l1), (2, .int l2)] [.int s1, .ref s0] M := by
  unfold F_XModel_next_35 at h
  obtain ⟨M1, aM1, eM1, h⟩ := pF_inv h
  refine ew_pF 0 0 d_XModel_next_35 fl_XModel_87 aM1 eM1 (fun ad => ⟨rfl, rfl⟩) ?_
  refine ew_aload_n 0 d_XModel_next_38 rfl rfl ?_
  obtain ⟨v2, av2, bv2, h⟩ := gI_inv h
  refine ew_gI 0 0 d_XModel_next_39 fl_XModel_87 av2 bv2 ?_
  refine ew_if_le 47 d_XModel_next_42 (by decide) (fun c3 => ?_) (fun c3 => ?_)
  · rw [if_pos c3] at h
    refine ew_aload_n 0 d_XModel_next_47 rfl rfl ?_
    obtain ⟨v4, av4, bv4, h⟩ := gR_inv h
    refine ew_gR 0 13 d_XModel_next_48 fl_XModel_38 av4 bv4 ?_
    refine ew_iload_n 1 d_XModel_next_51 rfl rfl ?_
    obtain ⟨v5, av5, bv5, cv5, ev5, h⟩ := lZ_inv h
    refine ew_lZ d_XModel_next_52 av5 bv5 cv5 ev5 ?_
    refine ew_istore_n (L' := [(0, .ref l0), (1, .int l1), (2, .int l2), (3, .int v5)]) 3 [1, 2, 3, 0] d_XModel_next_53 rfl (by decide) rfl ?_
    refine ew_aload_n 0 d_XModel_next_54 rfl rfl ?_
    obtain ⟨v6, av6, bv6, h⟩ := gR_inv h
    refine ew_gR 0 12 d_XModel_next_55 fl_XModel_35 av6 bv6 ?_
    refine ew_iload_n 1 d_XModel_next_58 rfl rfl ?_
    refine ew_iload_n 2 d_XModel_next_59 rfl rfl ?_
    obtain ⟨M7, aM7, bM7, cM7, eM7, h⟩ := wI_inv h
    refine ew_wI d_XModel_next_60 aM7 bM7 cM7 eM7 ?_
    refine ew_aload_n 0 d_XModel_next_61 rfl rfl ?_
    obtain ⟨v8, av8, bv8, h⟩ := gR_inv h
    refine ew_gR 0 13 d_XModel_next_62 fl_XModel_38 av8 bv8 ?_
    refine ew_iload_n 1 d_XModel_next_65 rfl rfl ?_
    refine ew_iconst (1) d_XModel_next_66 (by decide) ?_
    obtain ⟨M9, aM9, bM9, cM9, eM9, h⟩ := wZ_inv h
    refine ew_wZ d_XModel_next_67 aM9 bM9 cM9 eM9 ?_
    refine ew_iload_n 3 d_XModel_next_68 rfl rfl ?_
    obtain ⟨hb, h⟩ := rZ_inv h
    obtain ⟨hz, hm⟩ := Prod.mk.inj (Option.some.inj h)
    exact ew_zreturn d_XModel_next_69 rfl hz.symm hm.symm hb
  · rw [if_neg c3] at h
    refine ew_iconst (0) d_XModel_next_45 (by decide) ?_
    obtain ⟨hz, hm⟩ := Prod.mk.inj (Option.some.inj h)
    exact ew_zreturn d_XModel_next_46 rfl hz.symm hm.symm rfl
def F_XModel_next_17 (n : Nat) (l0 : Nat) (l1 : Int32) (l2 : Int32) (s0 : Nat) (M : PM) : qO :=
  F_XModel_next_35 n l0 l1 l2 s0 (1 : Int32) M
set_option maxHeartbeats 4000000 in
set_option maxRecDepth 100000 in
theorem E_XModel_next_17 {g : qG} {X : qX} {Z : qZ} (hn : 2 ≤ zn Z) (hl : 44 ≤ zl Z) {n : Nat} {l0 : Nat} {l1 : Int32} {l2 : Int32} {s0 : Nat} {M : PM} (h : F_XModel_next_17 n l0 l1 l2 s0 M = some (zr Z, zf Z)) : EW Y_XModel_next g X Z 17 [(0, .ref l0), (1, .int l1), (2, .int l2)] [.ref s0] M := by
  unfold F_XModel_next_17 at h
  refine ew_iconst (1) d_XModel_next_17 (by decide) ?_
  refine ew_goto 35 d_XModel_next_18 (by decide) ?_
  exact E_XModel_next_35 hn hl h
def F_XModel_next (n : Nat) (l0 : Nat) (l1 : Int32) (l2 : Int32) (M : PM) : qO :=
  kO 0 M l0 (
  cI (F_XModel_isElement n l0 l1 M) (fun v2 M1 =>
  if v2 = (0 : Int32) then
    F_XModel_next_17 n l0 l1 l2 l0 M1
  else
    kO 0 M1 l0 (
    cI (F_XModel_isNode n l0 l2 M1) (fun v5 M4 =>
    if v5 = (0 : Int32) then
      F_XModel_next_17 n l0 l1 l2 l0 M4
    else
      kO 0 M4 l0 (
      cI (F_XModel_isOfSort n l0 l1 l2 M4) (fun v8 M7 =>
      if v8 = (0 : Int32) then
        F_XModel_next_35 n l0 l1 l2 l0 (2 : Int32) M7
      else
        F_XModel_next_35 n l0 l1 l2 l0 (0 : Int32) M7))))))
set_option maxHeartbeats 4000000 in
set_option maxRecDepth 100000 in
theorem E_XModel_next {g : qG} {X : qX} {Z : qZ} (hn : 2 ≤ zn Z) (hl : 44 ≤ zl Z) {n : Nat} {l0 : Nat} {l1 : Int32} {l2 : Int32} {M : PM} (h : F_XModel_next n l0 l1 l2 M = some (zr Z, zf Z)) : EW Y_XModel_next g X Z 0 [(0, .ref l0), (1, .int l1), (2, .int l2)] [] M := by
  unfold F_XModel_next at h
  refine ew_aload_n 0 d_XModel_next_0 rfl rfl ?_
  refine ew_aload_n 0 d_XModel_next_1 rfl rfl ?_
  refine ew_iload_n 1 d_XModel_next_2 rfl rfl ?_
  obtain ⟨kM1, h⟩ := kO_inv h
  obtain ⟨v2, M1, hM1, h⟩ := cI_inv h
  refine ew_callV 0 [.int l1] d_XModel_next_3 cv_XModel_136 (T_XModel_isElement hM1) kM1 (Nat.le_trans (Nat.le_of_ble_eq_true rfl) hn) (Nat.le_trans (Nat.le_of_ble_eq_true rfl) hl) (Nat.le_of_ble_eq_true rfl) rfl rfl ?_
  refine ew_if_eq 17 d_XModel_next_6 (by decide) (fun c3 => ?_) (fun c3 => ?_)
  · rw [if_pos c3] at h
    exact E_XModel_next_17 hn hl h
  · rw [if_neg c3] at h
    refine ew_aload_n 0 d_XModel_next_9 rfl rfl ?_
    refine ew_iload_n 2 d_XModel_next_10 rfl rfl ?_
    obtain ⟨kM4, h⟩ := kO_inv h
    obtain ⟨v5, M4, hM4, h⟩ := cI_inv h
    refine ew_callV 0 [.int l2] d_XModel_next_11 cv_XModel_125 (T_XModel_isNode hM4) kM4 (Nat.le_trans (Nat.le_of_ble_eq_true rfl) hn) (Nat.le_trans (Nat.le_of_ble_eq_true rfl) hl) (Nat.le_of_ble_eq_true rfl) rfl rfl ?_
    refine ew_if_ne 21 d_XModel_next_14 (by decide) (fun c6 => ?_) (fun c6 => ?_)
    · rw [if_neg c6] at h
      refine ew_aload_n 0 d_XModel_next_21 rfl rfl ?_
      refine ew_iload_n 1 d_XModel_next_22 rfl rfl ?_
      refine ew_iload_n 2 d_XModel_next_23 rfl rfl ?_
      obtain ⟨kM7, h⟩ := kO_inv h
      obtain ⟨v8, M7, hM7, h⟩ := cI_inv h
      refine ew_callV 0 [.int l1, .int l2] d_XModel_next_24 cv_XModel_139 (T_XModel_isOfSort hM7) kM7 (Nat.le_trans (Nat.le_of_ble_eq_true rfl) hn) (Nat.le_trans (Nat.le_of_ble_eq_true rfl) hl) (Nat.le_of_ble_eq_true rfl) rfl rfl ?_
      refine ew_if_eq 34 d_XModel_next_27 (by decide) (fun c9 => ?_) (fun c9 => ?_)
      · rw [if_pos c9] at h
        refine ew_iconst (2) d_XModel_next_34 (by decide) ?_
        exact E_XModel_next_35 hn hl h
      · rw [if_neg c9] at h
        refine ew_iconst (0) d_XModel_next_30 (by decide) ?_
        refine ew_goto 35 d_XModel_next_31 (by decide) ?_
        exact E_XModel_next_35 hn hl h
    · rw [if_pos c6] at h
      exact E_XModel_next_17 hn hl h
theorem T_XModel_next {n : Nat} {l0 : Nat} {l1 : Int32} {l2 : Int32} {M Mf : PM} {res : qRs} (h : F_XModel_next n l0 l1 l2 M = some (res, Mf)) : CT Y_XModel_next 2 44 [.ref l0, .int l1, .int l2] M res Mf :=
  CT_of (by decide) (Nat.le_of_ble_eq_true rfl) (qHd_ne (by decide)) (fun g X ad0 => E_XModel_next (g := g) (X := X) (Z := (ad0, M, res, Mf, 2, 44)) (Nat.le_refl _) (Nat.le_refl _) h)
theorem d_XModel_unmark_0 : decode Y_XModel_unmark.2.1 0 = .ok (.iconst 0, 1) := by decide +kernel
theorem d_XModel_unmark_1 : decode Y_XModel_unmark.2.1 1 = .ok (.istore_n 1, 1) := by decide +kernel
theorem d_XModel_unmark_2 : decode Y_XModel_unmark.2.1 2 = .ok (.iload_n 1, 1) := by decide +kernel
theorem d_XModel_unmark_3 : decode Y_XModel_unmark.2.1 3 = .ok (.aload_n 0, 1) := by decide +kernel
theorem d_XModel_unmark_4 : decode Y_XModel_unmark.2.1 4 = .ok (.getfield 81, 3) := by decide +kernel
theorem d_XModel_unmark_7 : decode Y_XModel_unmark.2.1 7 = .ok (.if_icmp .ge (16), 3) := by decide +kernel
theorem d_XModel_unmark_10 : decode Y_XModel_unmark.2.1 10 = .ok (.aload_n 0, 1) := by decide +kernel
theorem d_XModel_unmark_11 : decode Y_XModel_unmark.2.1 11 = .ok (.getfield 63, 3) := by decide +kernel
theorem d_XModel_unmark_14 : decode Y_XModel_unmark.2.1 14 = .ok (.iload_n 1, 1) := by decide +kernel
theorem d_XModel_unmark_15 : decode Y_XModel_unmark.2.1 15 = .ok (.iconst 0, 1) := by decide +kernel
theorem d_XModel_unmark_16 : decode Y_XModel_unmark.2.1 16 = .ok (.bastore, 1) := by decide +kernel
theorem d_XModel_unmark_17 : decode Y_XModel_unmark.2.1 17 = .ok (.iinc 1 (1), 3) := by decide +kernel
theorem d_XModel_unmark_20 : decode Y_XModel_unmark.2.1 20 = .ok (.goto (-18), 3) := by decide +kernel
theorem d_XModel_unmark_23 : decode Y_XModel_unmark.2.1 23 = .ok (.return_, 1) := by decide +kernel
def F_XModel_unmark_2 (n : Nat) : Nat → Nat → Int32 → PM → qO
  | 0, _, _, _ => none
  | f + 1, l0, l1, M =>
    gI 0 M l0 2 (fun v1 =>
    if v1 ≤ l1 then
      some (.inl none, M)
    else
      gR 0 M l0 21 (fun v3 =>
      wZ M v3 l1 (0 : Int32) (fun M4 =>
      bI (l1 + (1 : Int32)) (fun v5 =>
      (F_XModel_unmark_2 n f) l0 v5 M4))))
set_option maxHeartbeats 4000000 in
set_option maxRecDepth 100000 in
theorem E_XModel_unmark_2 {g : qG} {X : qX} {Z : qZ} (hn : 0 ≤ zn Z) (hl : 0 ≤ zl Z) {n : Nat} : ∀ (f : Nat) (l0 : Nat) (l1 : Int32) (M : PM), F_XModel_unmark_2 n f l0 l1 M = some (zr Z, zf Z) → EW Y_XModel_unmark g X Z 2 [(0, .ref l0), (1, .int l1)] [] M := by
  intro f
  induction f with
  | zero => intro l0 l1 M h; rw [F_XModel_unmark_2] at h; cases h
  | succ f ih =>
    intro l0 l1 M h
    rw [F_XModel_unmark_2] at h
    refine ew_iload_n 1 d_XModel_unmark_2 rfl rfl ?_
    refine ew_aload_n 0 d_XModel_unmark_3 rfl rfl ?_
    obtain ⟨v1, av1, bv1, h⟩ := gI_inv h
    refine ew_gI 0 2 d_XModel_unmark_4 fl_XModel_81 av1 bv1 ?_
    refine ew_icmp_ge 23 d_XModel_unmark_7 (by decide) (fun c2 => ?_) (fun c2 => ?_)
    · rw [if_pos c2] at h
      obtain ⟨hz, hm⟩ := Prod.mk.inj (Option.some.inj h)
      exact ew_return d_XModel_unmark_23 rfl hz.symm hm.symm
    · rw [if_neg c2] at h
      refine ew_aload_n 0 d_XModel_unmark_10 rfl rfl ?_
      obtain ⟨v3, av3, bv3, h⟩ := gR_inv h
      refine ew_gR 0 21 d_XModel_unmark_11 fl_XModel_63 av3 bv3 ?_
      refine ew_iload_n 1 d_XModel_unmark_14 rfl rfl ?_
      refine ew_iconst (0) d_XModel_unmark_15 (by decide) ?_
      obtain ⟨M4, aM4, bM4, cM4, eM4, h⟩ := wZ_inv h
      refine ew_wZ d_XModel_unmark_16 aM4 bM4 cM4 eM4 ?_
      obtain ⟨v5, ev5, h⟩ := bI_inv h
      refine ew_iinc (L' := [(0, .ref l0), (1, .int v5)]) v5 [1, 0] d_XModel_unmark_17 rfl (by rw [ev5]; rfl) (by decide) rfl ?_
      refine ew_goto 2 d_XModel_unmark_20 (by decide) ?_
      exact ih l0 v5 M4 h
def F_XModel_unmark (n : Nat) (l0 : Nat) (M : PM) : qO :=
  F_XModel_unmark_2 n n l0 (0 : Int32) M
set_option maxHeartbeats 4000000 in
set_option maxRecDepth 100000 in
theorem E_XModel_unmark {g : qG} {X : qX} {Z : qZ} (hn : 0 ≤ zn Z) (hl : 0 ≤ zl Z) {n : Nat} {l0 : Nat} {M : PM} (h : F_XModel_unmark n l0 M = some (zr Z, zf Z)) : EW Y_XModel_unmark g X Z 0 [(0, .ref l0)] [] M := by
  unfold F_XModel_unmark at h
  refine ew_iconst (0) d_XModel_unmark_0 (by decide) ?_
  refine ew_istore_n (L' := [(0, .ref l0), (1, .int (0 : Int32))]) 1 [1, 0] d_XModel_unmark_1 rfl (by decide) rfl ?_
  exact E_XModel_unmark_2 hn hl n l0 (0 : Int32) M h
theorem T_XModel_unmark {n : Nat} {l0 : Nat} {M Mf : PM} {res : qRs} (h : F_XModel_unmark n l0 M = some (res, Mf)) : CT Y_XModel_unmark 0 0 [.ref l0] M res Mf :=
  CT_of (by decide) (Nat.le_of_ble_eq_true rfl) (qHd_ne (by decide)) (fun g X ad0 => E_XModel_unmark (g := g) (X := X) (Z := (ad0, M, res, Mf, 0, 0)) (Nat.le_refl _) (Nat.le_refl _) h)
theorem d_XModel_mark_0 : decode Y_XModel_mark.2.1 0 = .ok (.iload_n 1, 1) := by decide +kernel
theorem d_XModel_mark_1 : decode Y_XModel_mark.2.1 1 = .ok (.ifCond .lt (10), 3) := by decide +kernel
theorem d_XModel_mark_4 : decode Y_XModel_mark.2.1 4 = .ok (.aload_n 0, 1) := by decide +kernel
theorem d_XModel_mark_5 : decode Y_XModel_mark.2.1 5 = .ok (.getfield 63, 3) := by decide +kernel
theorem d_XModel_mark_8 : decode Y_XModel_mark.2.1 8 = .ok (.iload_n 1, 1) := by decide +kernel
theorem d_XModel_mark_9 : decode Y_XModel_mark.2.1 9 = .ok (.iconst 1, 1) := by decide +kernel
theorem d_XModel_mark_10 : decode Y_XModel_mark.2.1 10 = .ok (.bastore, 1) := by decide +kernel
theorem d_XModel_mark_11 : decode Y_XModel_mark.2.1 11 = .ok (.return_, 1) := by decide +kernel
def F_XModel_mark_11 (n : Nat) (M : PM) : qO :=
  some (.inl none, M)
set_option maxHeartbeats 4000000 in
set_option maxRecDepth 100000 in
theorem E_XModel_mark_11 {g : qG} {X : qX} {Z : qZ} (hn : 0 ≤ zn Z) (hl : 0 ≤ zl Z) {n : Nat} {M : PM} (h : F_XModel_mark_11 n M = some (zr Z, zf Z)) : EW Y_XModel_mark g X Z 11 [] [] M := by
  unfold F_XModel_mark_11 at h
  obtain ⟨hz, hm⟩ := Prod.mk.inj (Option.some.inj h)
  exact ew_return d_XModel_mark_11 rfl hz.symm hm.symm
def F_XModel_mark (n : Nat) (l0 : Nat) (l1 : Int32) (M : PM) : qO :=
  if l1 < (0 : Int32) then
    F_XModel_mark_11 n M
  else
    gR 0 M l0 21 (fun v2 =>
    wZ M v2 l1 (1 : Int32) (fun M3 =>
    F_XModel_mark_11 n M3))
set_option maxHeartbeats 4000000 in
set_option maxRecDepth 100000 in
theorem E_XModel_mark {g : qG} {X : qX} {Z : qZ} (hn : 0 ≤ zn Z) (hl : 0 ≤ zl Z) {n : Nat} {l0 : Nat} {l1 : Int32} {M : PM} (h : F_XModel_mark n l0 l1 M = some (zr Z, zf Z)) : EW Y_XModel_mark g X Z 0 [(0, .ref l0), (1, .int l1)] [] M := by
  unfold F_XModel_mark at h
  refine ew_iload_n 1 d_XModel_mark_0 rfl rfl ?_
  refine ew_if_lt 11 d_XModel_mark_1 (by decide) (fun c1 => ?_) (fun c1 => ?_)
  · rw [if_pos c1] at h
    exact ew_pick (L' := []) [] rfl (E_XModel_mark_11 hn hl h)
  · rw [if_neg c1] at h
    refine ew_aload_n 0 d_XModel_mark_4 rfl rfl ?_
    obtain ⟨v2, av2, bv2, h⟩ := gR_inv h
    refine ew_gR 0 21 d_XModel_mark_5 fl_XModel_63 av2 bv2 ?_
    refine ew_iload_n 1 d_XModel_mark_8 rfl rfl ?_
    refine ew_iconst (1) d_XModel_mark_9 (by decide) ?_
    obtain ⟨M3, aM3, bM3, cM3, eM3, h⟩ := wZ_inv h
    refine ew_wZ d_XModel_mark_10 aM3 bM3 cM3 eM3 ?_
    exact ew_pick (L' := []) [] rfl (E_XModel_mark_11 hn hl h)
theorem T_XModel_mark {n : Nat} {l0 : Nat} {l1 : Int32} {M Mf : PM} {res : qRs} (h : F_XModel_mark n l0 l1 M = some (res, Mf)) : CT Y_XModel_mark 0 0 [.ref l0, .int l1] M res Mf :=
  CT_of (by decide) (Nat.le_of_ble_eq_true rfl) (qHd_ne (by decide)) (fun g X ad0 => E_XModel_mark (g := g) (X := X) (Z := (ad0, M, res, Mf, 0, 0)) (Nat.le_refl _) (Nat.le_refl _) h)
theorem d_XModel_markParts_0 : decode Y_XModel_markParts.2.1 0 = .ok (.aload_n 0, 1) := by decide +kernel
theorem d_XModel_markParts_1 : decode Y_XModel_markParts.2.1 1 = .ok (.getfield 81, 3) := by decide +kernel
theorem d_XModel_markParts_4 : decode Y_XModel_markParts.2.1 4 = .ok (.iconst 1, 1) := by decide +kernel
theorem d_XModel_markParts_5 : decode Y_XModel_markParts.2.1 5 = .ok (.isub, 1) := by decide +kernel
theorem d_XModel_markParts_6 : decode Y_XModel_markParts.2.1 6 = .ok (.istore_n 1, 1) := by decide +kernel
theorem d_XModel_markParts_7 : decode Y_XModel_markParts.2.1 7 = .ok (.iload_n 1, 1) := by decide +kernel
theorem d_XModel_markParts_8 : decode Y_XModel_markParts.2.1 8 = .ok (.iconst 2, 1) := by decide +kernel
theorem d_XModel_markParts_9 : decode Y_XModel_markParts.2.1 9 = .ok (.if_icmp .le (69), 3) := by decide +kernel
theorem d_XModel_markParts_12 : decode Y_XModel_markParts.2.1 12 = .ok (.aload_n 0, 1) := by decide +kernel
theorem d_XModel_markParts_13 : decode Y_XModel_markParts.2.1 13 = .ok (.getfield 63, 3) := by decide +kernel
theorem d_XModel_markParts_16 : decode Y_XModel_markParts.2.1 16 = .ok (.iload_n 1, 1) := by decide +kernel
theorem d_XModel_markParts_17 : decode Y_XModel_markParts.2.1 17 = .ok (.baload, 1) := by decide +kernel
theorem d_XModel_markParts_18 : decode Y_XModel_markParts.2.1 18 = .ok (.ifCond .eq (54), 3) := by decide +kernel
theorem d_XModel_markParts_21 : decode Y_XModel_markParts.2.1 21 = .ok (.aload_n 0, 1) := by decide +kernel
theorem d_XModel_markParts_22 : decode Y_XModel_markParts.2.1 22 = .ok (.getfield 13, 3) := by decide +kernel
theorem d_XModel_markParts_25 : decode Y_XModel_markParts.2.1 25 = .ok (.iload_n 1, 1) := by decide +kernel
theorem d_XModel_markParts_26 : decode Y_XModel_markParts.2.1 26 = .ok (.iaload, 1) := by decide +kernel
theorem d_XModel_markParts_27 : decode Y_XModel_markParts.2.1 27 = .ok (.iconst 4, 1) := by decide +kernel
theorem d_XModel_markParts_28 : decode Y_XModel_markParts.2.1 28 = .ok (.if_icmp .le (44), 3) := by decide +kernel
theorem d_XModel_markParts_31 : decode Y_XModel_markParts.2.1 31 = .ok (.aload_n 0, 1) := by decide +kernel
theorem d_XModel_markParts_32 : decode Y_XModel_markParts.2.1 32 = .ok (.aload_n 0, 1) := by decide +kernel
theorem d_XModel_markParts_33 : decode Y_XModel_markParts.2.1 33 = .ok (.getfield 17, 3) := by decide +kernel
theorem d_XModel_markParts_36 : decode Y_XModel_markParts.2.1 36 = .ok (.iload_n 1, 1) := by decide +kernel
theorem d_XModel_markParts_37 : decode Y_XModel_markParts.2.1 37 = .ok (.iaload, 1) := by decide +kernel
theorem d_XModel_markParts_38 : decode Y_XModel_markParts.2.1 38 = .ok (.invokevirtual 143, 3) := by decide +kernel
theorem d_XModel_markParts_41 : decode Y_XModel_markParts.2.1 41 = .ok (.aload_n 0, 1) := by decide +kernel
theorem d_XModel_markParts_42 : decode Y_XModel_markParts.2.1 42 = .ok (.aload_n 0, 1) := by decide +kernel
theorem d_XModel_markParts_43 : decode Y_XModel_markParts.2.1 43 = .ok (.getfield 20, 3) := by decide +kernel
theorem d_XModel_markParts_46 : decode Y_XModel_markParts.2.1 46 = .ok (.iload_n 1, 1) := by decide +kernel
theorem d_XModel_markParts_47 : decode Y_XModel_markParts.2.1 47 = .ok (.iaload, 1) := by decide +kernel
theorem d_XModel_markParts_48 : decode Y_XModel_markParts.2.1 48 = .ok (.invokevirtual 143, 3) := by decide +kernel
theorem d_XModel_markParts_51 : decode Y_XModel_markParts.2.1 51 = .ok (.aload_n 0, 1) := by decide +kernel
theorem d_XModel_markParts_52 : decode Y_XModel_markParts.2.1 52 = .ok (.getfield 13, 3) := by decide +kernel
theorem d_XModel_markParts_55 : decode Y_XModel_markParts.2.1 55 = .ok (.iload_n 1, 1) := by decide +kernel
theorem d_XModel_markParts_56 : decode Y_XModel_markParts.2.1 56 = .ok (.iaload, 1) := by decide +kernel
theorem d_XModel_markParts_57 : decode Y_XModel_markParts.2.1 57 = .ok (.bipush (9), 2) := by decide +kernel
theorem d_XModel_markParts_59 : decode Y_XModel_markParts.2.1 59 = .ok (.if_icmp .ne (13), 3) := by decide +kernel
theorem d_XModel_markParts_62 : decode Y_XModel_markParts.2.1 62 = .ok (.aload_n 0, 1) := by decide +kernel
theorem d_XModel_markParts_63 : decode Y_XModel_markParts.2.1 63 = .ok (.aload_n 0, 1) := by decide +kernel
theorem d_XModel_markParts_64 : decode Y_XModel_markParts.2.1 64 = .ok (.getfield 23, 3) := by decide +kernel
theorem d_XModel_markParts_67 : decode Y_XModel_markParts.2.1 67 = .ok (.iload_n 1, 1) := by decide +kernel
theorem d_XModel_markParts_68 : decode Y_XModel_markParts.2.1 68 = .ok (.iaload, 1) := by decide +kernel
theorem d_XModel_markParts_69 : decode Y_XModel_markParts.2.1 69 = .ok (.invokevirtual 143, 3) := by decide +kernel
theorem d_XModel_markParts_72 : decode Y_XModel_markParts.2.1 72 = .ok (.iinc 1 (-1), 3) := by decide +kernel
theorem d_XModel_markParts_75 : decode Y_XModel_markParts.2.1 75 = .ok (.goto (-68), 3) := by decide +kernel
theorem d_XModel_markParts_78 : decode Y_XModel_markParts.2.1 78 = .ok (.return_, 1) := by decide +kernel
def F_XModel_markParts_72 (n : Nat) (rec7 : Nat → Int32 → PM → qO) (l0 : Nat) (l1 : Int32) (M : PM) : qO :=
  bI (l1 + (-1 : Int32)) (fun v1 =>
  rec7 l0 v1 M)
set_option maxHeartbeats 4000000 in
set_option maxRecDepth 100000 in
theorem E_XModel_markParts_72 {g : qG} {X : qX} {Z : qZ} (hn : 1 ≤ zn Z) (hl : 21 ≤ zl Z) {n : Nat} {rec7 : Nat → Int32 → PM → qO} (hrec7 : ∀ (l0 : Nat) (l1 : Int32) (M : PM), rec7 l0 l1 M = some (zr Z, zf Z) → EW Y_XModel_markParts g X Z 7 [(0, .ref l0), (1, .int l1)] [] M) {l0 : Nat} {l1 : Int32} {M : PM} (h : F_XModel_markParts_72 n rec7 l0 l1 M = some (zr Z, zf Z)) : EW Y_XModel_markParts g X Z 72 [(0, .ref l0), (1, .int l1)] [] M := by
  unfold F_XModel_markParts_72 at h
  obtain ⟨v1, ev1, h⟩ := bI_inv h
  refine ew_iinc (L' := [(0, .ref l0), (1, .int v1)]) v1 [1, 0] d_XModel_markParts_72 rfl (by rw [ev1]; rfl) (by decide) rfl ?_
  refine ew_goto 7 d_XModel_markParts_75 (by decide) ?_
  exact hrec7 l0 v1 M h
def F_XModel_markParts_7 (n : Nat) : Nat → Nat → Int32 → PM → qO
  | 0, _, _, _ => none
  | f + 1, l0, l1, M =>
    if l1 ≤ (2 : Int32) then
      some (.inl none, M)
    else
      gR 0 M l0 21 (fun v2 =>
      lZ M v2 l1 (fun v3 =>
      if v3 = (0 : Int32) then
        F_XModel_markParts_72 n (F_XModel_markParts_7 n f) l0 l1 M
      else
        gR 0 M l0 3 (fun v5 =>
        lI M v5 l1 (fun v6 =>
        if v6 ≤ (4 : Int32) then
          F_XModel_markParts_72 n (F_XModel_markParts_7 n f) l0 l1 M
        else
          gR 0 M l0 4 (fun v8 =>
          lI M v8 l1 (fun v9 =>
          kO 0 M l0 (
          cV (F_XModel_mark n l0 v9 M) (fun M10 =>
          gR 0 M10 l0 5 (fun v11 =>
          lI M10 v11 l1 (fun v12 =>
          kO 0 M10 l0 (
          cV (F_XModel_mark n l0 v12 M10) (fun M13 =>
          gR 0 M13 l0 3 (fun v14 =>
          lI M13 v14 l1 (fun v15 =>
          if v15 = (9 : Int32) then
            gR 0 M13 l0 6 (fun v17 =>
            lI M13 v17 l1 (fun v18 =>
            kO 0 M13 l0 (
            cV (F_XModel_mark n l0 v18 M13) (fun M19 =>
            F_XModel_markParts_72 n (F_XModel_markParts_7 n f) l0 l1 M19))))
          else
            F_XModel_markParts_72 n (F_XModel_markParts_7 n f) l0 l1 M13))))))))))))))
set_option maxHeartbeats 4000000 in
set_option maxRecDepth 100000 in
theorem E_XModel_markParts_7 {g : qG} {X : qX} {Z : qZ} (hn : 1 ≤ zn Z) (hl : 21 ≤ zl Z) {n : Nat} : ∀ (f : Nat) (l0 : Nat) (l1 : Int32) (M : PM), F_XModel_markParts_7 n f l0 l1 M = some (zr Z, zf Z) → EW Y_XModel_markParts g X Z 7 [(0, .ref l0), (1, .int l1)] [] M := by
  intro f
  induction f with
  | zero => intro l0 l1 M h; rw [F_XModel_markParts_7] at h; cases h
  | succ f ih =>
    intro l0 l1 M h
    rw [F_XModel_markParts_7] at h
    refine ew_iload_n 1 d_XModel_markParts_7 rfl rfl ?_
    refine ew_iconst (2) d_XModel_markParts_8 (by decide) ?_
    refine ew_icmp_le 78 d_XModel_markParts_9 (by decide) (fun c1 => ?_) (fun c1 => ?_)
    · rw [if_pos c1] at h
      obtain ⟨hz, hm⟩ := Prod.mk.inj (Option.some.inj h)
      exact ew_return d_XModel_markParts_78 rfl hz.symm hm.symm
    · rw [if_neg c1] at h
      refine ew_aload_n 0 d_XModel_markParts_12 rfl rfl ?_
      obtain ⟨v2, av2, bv2, h⟩ := gR_inv h
      refine ew_gR 0 21 d_XModel_markParts_13 fl_XModel_63 av2 bv2 ?_
      refine ew_iload_n 1 d_XModel_markParts_16 rfl rfl ?_
      obtain ⟨v3, av3, bv3, cv3, ev3, h⟩ := lZ_inv h
      refine ew_lZ d_XModel_markParts_17 av3 bv3 cv3 ev3 ?_
      refine ew_if_eq 72 d_XModel_markParts_18 (by decide) (fun c4 => ?_) (fun c4 => ?_)
      · rw [if_pos c4] at h
        exact E_XModel_markParts_72 hn hl ih h
      · rw [if_neg c4] at h
        refine ew_aload_n 0 d_XModel_markParts_21 rfl rfl ?_
        obtain ⟨v5, av5, bv5, h⟩ := gR_inv h
        refine ew_gR 0 3 d_XModel_markParts_22 fl_XModel_13 av5 bv5 ?_
        refine ew_iload_n 1 d_XModel_markParts_25 rfl rfl ?_
        obtain ⟨v6, av6, bv6, cv6, ev6, h⟩ := lI_inv h
        refine ew_lI d_XModel_markParts_26 av6 bv6 cv6 ev6 ?_
        refine ew_iconst (4) d_XModel_markParts_27 (by decide) ?_
        refine ew_icmp_le 72 d_XModel_markParts_28 (by decide) (fun c7 => ?_) (fun c7 => ?_)
        · rw [if_pos c7] at h
          exact E_XModel_markParts_72 hn hl ih h
        · rw [if_neg c7] at h
          refine ew_aload_n 0 d_XModel_markParts_31 rfl rfl ?_
          refine ew_aload_n 0 d_XModel_markParts_32 rfl rfl ?_
          obtain ⟨v8, av8, bv8, h⟩ := gR_inv h
          refine ew_gR 0 4 d_XModel_markParts_33 fl_XModel_17 av8 bv8 ?_
          refine ew_iload_n 1 d_XModel_markParts_36 rfl rfl ?_
          obtain ⟨v9, av9, bv9, cv9, ev9, h⟩ := lI_inv h
          refine ew_lI d_XModel_markParts_37 av9 bv9 cv9 ev9 ?_
          obtain ⟨kM10, h⟩ := kO_inv h
          obtain ⟨M10, hM10, h⟩ := cV_inv h
          refine ew_callV 0 [.int v9] d_XModel_markParts_38 cv_XModel_143 (T_XModel_mark hM10) kM10 (Nat.le_trans (Nat.le_of_ble_eq_true rfl) hn) (Nat.le_trans (Nat.le_of_ble_eq_true rfl) hl) (Nat.le_of_ble_eq_true rfl) rfl rfl ?_
          refine ew_aload_n 0 d_XModel_markParts_41 rfl rfl ?_
          refine ew_aload_n 0 d_XModel_markParts_42 rfl rfl ?_
          obtain ⟨v11, av11, bv11, h⟩ := gR_inv h
          refine ew_gR 0 5 d_XModel_markParts_43 fl_XModel_20 av11 bv11 ?_
          refine ew_iload_n 1 d_XModel_markParts_46 rfl rfl ?_
          obtain ⟨v12, av12, bv12, cv12, ev12, h⟩ := lI_inv h
          refine ew_lI d_XModel_markParts_47 av12 bv12 cv12 ev12 ?_
          obtain ⟨kM13, h⟩ := kO_inv h
          obtain ⟨M13, hM13, h⟩ := cV_inv h
          refine ew_callV 0 [.int v12] d_XModel_markParts_48 cv_XModel_143 (T_XModel_mark hM13) kM13 (Nat.le_trans (Nat.le_of_ble_eq_true rfl) hn) (Nat.le_trans (Nat.le_of_ble_eq_true rfl) hl) (Nat.le_of_ble_eq_true rfl) rfl rfl ?_
          refine ew_aload_n 0 d_XModel_markParts_51 rfl rfl ?_
          obtain ⟨v14, av14, bv14, h⟩ := gR_inv h
          refine ew_gR 0 3 d_XModel_markParts_52 fl_XModel_13 av14 bv14 ?_
          refine ew_iload_n 1 d_XModel_markParts_55 rfl rfl ?_
          obtain ⟨v15, av15, bv15, cv15, ev15, h⟩ := lI_inv h
          refine ew_lI d_XModel_markParts_56 av15 bv15 cv15 ev15 ?_
          refine ew_bipush (9) d_XModel_markParts_57 (by decide +kernel) ?_
          refine ew_icmp_ne 72 d_XModel_markParts_59 (by decide) (fun c16 => ?_) (fun c16 => ?_)
          · rw [if_neg c16] at h
            exact E_XModel_markParts_72 hn hl ih h
          · rw [if_pos c16] at h
            refine ew_aload_n 0 d_XModel_markParts_62 rfl rfl ?_
            refine ew_aload_n 0 d_XModel_markParts_63 rfl rfl ?_
            obtain ⟨v17, av17, bv17, h⟩ := gR_inv h
            refine ew_gR 0 6 d_XModel_markParts_64 fl_XModel_23 av17 bv17 ?_
            refine ew_iload_n 1 d_XModel_markParts_67 rfl rfl ?_
            obtain ⟨v18, av18, bv18, cv18, ev18, h⟩ := lI_inv h
            refine ew_lI d_XModel_markParts_68 av18 bv18 cv18 ev18 ?_
            obtain ⟨kM19, h⟩ := kO_inv h
            obtain ⟨M19, hM19, h⟩ := cV_inv h
            refine ew_callV 0 [.int v18] d_XModel_markParts_69 cv_XModel_143 (T_XModel_mark hM19) kM19 (Nat.le_trans (Nat.le_of_ble_eq_true rfl) hn) (Nat.le_trans (Nat.le_of_ble_eq_true rfl) hl) (Nat.le_of_ble_eq_true rfl) rfl rfl ?_
            exact E_XModel_markParts_72 hn hl ih h
def F_XModel_markParts (n : Nat) (l0 : Nat) (M : PM) : qO :=
  gI 0 M l0 2 (fun v1 =>
  bI (v1 - (1 : Int32)) (fun v2 =>
  F_XModel_markParts_7 n n l0 v2 M))
set_option maxHeartbeats 4000000 in
set_option maxRecDepth 100000 in
theorem E_XModel_markParts {g : qG} {X : qX} {Z : qZ} (hn : 1 ≤ zn Z) (hl : 21 ≤ zl Z) {n : Nat} {l0 : Nat} {M : PM} (h : F_XModel_markParts n l0 M = some (zr Z, zf Z)) : EW Y_XModel_markParts g X Z 0 [(0, .ref l0)] [] M := by
  unfold F_XModel_markParts at h
  refine ew_aload_n 0 d_XModel_markParts_0 rfl rfl ?_
  obtain ⟨v1, av1, bv1, h⟩ := gI_inv h
  refine ew_gI 0 2 d_XModel_markParts_1 fl_XModel_81 av1 bv1 ?_
  refine ew_iconst (1) d_XModel_markParts_4 (by decide) ?_
  refine ew_isub d_XModel_markParts_5 ?_
  obtain ⟨v2, ev2, h⟩ := bI_inv h
  refine ew_topI ev2 ?_
  refine ew_istore_n (L' := [(0, .ref l0), (1, .int v2)]) 1 [1, 0] d_XModel_markParts_6 rfl (by decide) rfl ?_
  exact E_XModel_markParts_7 hn hl n l0 v2 M h
theorem T_XModel_markParts {n : Nat} {l0 : Nat} {M Mf : PM} {res : qRs} (h : F_XModel_markParts n l0 M = some (res, Mf)) : CT Y_XModel_markParts 1 21 [.ref l0] M res Mf :=
  CT_of (by decide) (Nat.le_of_ble_eq_true rfl) (qHd_ne (by decide)) (fun g X ad0 => E_XModel_markParts (g := g) (X := X) (Z := (ad0, M, res, Mf, 1, 21)) (Nat.le_refl _) (Nat.le_refl _) h)
