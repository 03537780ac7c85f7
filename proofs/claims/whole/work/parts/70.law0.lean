theorem d_XLaw_word_0 : decode Y_XLaw_word.2.1 0 = .ok (.aload_n 1, 1) := by decide +kernel
theorem d_XLaw_word_1 : decode Y_XLaw_word.2.1 1 = .ok (.iconst 0, 1) := by decide +kernel
theorem d_XLaw_word_2 : decode Y_XLaw_word.2.1 2 = .ok (.aload_n 0, 1) := by decide +kernel
theorem d_XLaw_word_3 : decode Y_XLaw_word.2.1 3 = .ok (.invokevirtual 7, 3) := by decide +kernel
theorem d_XLaw_word_6 : decode Y_XLaw_word.2.1 6 = .ok (.i2l, 1) := by decide +kernel
theorem d_XLaw_word_7 : decode Y_XLaw_word.2.1 7 = .ok (.lastore, 1) := by decide +kernel
theorem d_XLaw_word_8 : decode Y_XLaw_word.2.1 8 = .ok (.goto (6), 3) := by decide +kernel
theorem d_XLaw_word_12 : decode Y_XLaw_word.2.1 12 = .ok (.iconst 1, 1) := by decide +kernel
theorem d_XLaw_word_13 : decode Y_XLaw_word.2.1 13 = .ok (.ireturn, 1) := by decide +kernel
theorem d_XLaw_word_14 : decode Y_XLaw_word.2.1 14 = .ok (.iconst 0, 1) := by decide +kernel
theorem d_XLaw_word_15 : decode Y_XLaw_word.2.1 15 = .ok (.ireturn, 1) := by decide +kernel
def F_XLaw_word (n : Nat) (l0 : Nat) (l1 : Nat) (M : PM) : qO :=
  kO 1 M l0 (
  xI (F_X_word n l0 M) [("java/lang/UnsupportedOperationException", 1)] (fun v2 M1 =>
  wL M1 l1 (0 : Int32) v2.toInt64 (fun M3 =>
  some (.inl (some (.int (0 : Int32))), M3))))
set_option maxHeartbeats 4000000 in
set_option maxRecDepth 100000 in
theorem E_XLaw_word {g : qG} {X : qX} {Z : qZ} (hn : 8 ≤ zn Z) (hl : 122 ≤ zl Z) {n : Nat} {l0 : Nat} {l1 : Nat} {M : PM} (h : F_XLaw_word n l0 l1 M = some (zr Z, zf Z)) : EW Y_XLaw_word g X Z 0 [(0, .ref l0), (1, .ref l1)] [] M := by
  unfold F_XLaw_word at h
  refine ew_aload_n 1 d_XLaw_word_0 rfl rfl ?_
  refine ew_iconst (0) d_XLaw_word_1 (by decide) ?_
  refine ew_aload_n 0 d_XLaw_word_2 rfl rfl ?_
  obtain ⟨kM1, h⟩ := kO_inv h
  rcases Or.symm (xI_inv h) with ⟨EM1, wM1, NM1, hM1, hwM1, h⟩ | ⟨v2, M1, hM1, h⟩
  · obtain ⟨hz, hm⟩ := Prod.mk.inj h
    rcases List.mem_cons.mp hwM1 with q9 | hwM1
    · obtain ⟨rfl, rfl⟩ := Prod.mk.inj q9
      exact ew_callVx 1 [] d_XLaw_word_3 cv_XLaw_7 lk_XLaw_7 (T_X_word hM1) kM1 (Nat.le_trans (Nat.le_of_ble_eq_true rfl) hn) (Nat.le_trans (Nat.le_of_ble_eq_true rfl) hl) (Nat.le_of_ble_eq_true rfl) rfl (ew_caught ca_XLaw_word_0 (ew_iconst (1) d_XLaw_word_12 (by decide) (ew_ireturn d_XLaw_word_13 rfl hz hm)))
    cases hwM1
  refine ew_callV 1 [] d_XLaw_word_3 cv_XLaw_7 (T_X_word hM1) kM1 (Nat.le_trans (Nat.le_of_ble_eq_true rfl) hn) (Nat.le_trans (Nat.le_of_ble_eq_true rfl) hl) (Nat.le_of_ble_eq_true rfl) rfl rfl ?_
  refine ew_i2l d_XLaw_word_6 ?_
  obtain ⟨M3, aM3, bM3, cM3, eM3, h⟩ := wL_inv h
  refine ew_wL d_XLaw_word_7 aM3 bM3 cM3 eM3 ?_
  refine ew_goto 14 d_XLaw_word_8 (by decide) ?_
  refine ew_iconst (0) d_XLaw_word_14 (by decide) ?_
  obtain ⟨hz, hm⟩ := Prod.mk.inj (Option.some.inj h)
  exact ew_ireturn d_XLaw_word_15 rfl hz.symm hm.symm
theorem T_XLaw_word {n : Nat} {l0 : Nat} {l1 : Nat} {M Mf : PM} {res : qRs} (h : F_XLaw_word n l0 l1 M = some (res, Mf)) : CTw Y_XLaw_word 8 122 [.ref l0, .ref l1] M res Mf :=
  CTw_of (by decide) (Nat.le_of_ble_eq_true rfl) (fun g X ad0 => E_XLaw_word (g := g) (X := X) (Z := (ad0, M, res, Mf, 8, 122)) (Nat.le_refl _) (Nat.le_refl _) h)
theorem d_XLaw_truth_0 : decode Y_XLaw_truth.2.1 0 = .ok (.aload_n 1, 1) := by decide +kernel
theorem d_XLaw_truth_1 : decode Y_XLaw_truth.2.1 1 = .ok (.iconst 0, 1) := by decide +kernel
theorem d_XLaw_truth_2 : decode Y_XLaw_truth.2.1 2 = .ok (.aload_n 0, 1) := by decide +kernel
theorem d_XLaw_truth_3 : decode Y_XLaw_truth.2.1 3 = .ok (.invokevirtual 15, 3) := by decide +kernel
theorem d_XLaw_truth_6 : decode Y_XLaw_truth.2.1 6 = .ok (.i2l, 1) := by decide +kernel
theorem d_XLaw_truth_7 : decode Y_XLaw_truth.2.1 7 = .ok (.lastore, 1) := by decide +kernel
theorem d_XLaw_truth_8 : decode Y_XLaw_truth.2.1 8 = .ok (.goto (6), 3) := by decide +kernel
theorem d_XLaw_truth_12 : decode Y_XLaw_truth.2.1 12 = .ok (.iconst 1, 1) := by decide +kernel
theorem d_XLaw_truth_13 : decode Y_XLaw_truth.2.1 13 = .ok (.ireturn, 1) := by decide +kernel
theorem d_XLaw_truth_14 : decode Y_XLaw_truth.2.1 14 = .ok (.iconst 0, 1) := by decide +kernel
theorem d_XLaw_truth_15 : decode Y_XLaw_truth.2.1 15 = .ok (.ireturn, 1) := by decide +kernel
def F_XLaw_truth (n : Nat) (l0 : Nat) (l1 : Nat) (M : PM) : qO :=
  kO 1 M l0 (
  xI (F_X_truth n l0 M) [("java/lang/UnsupportedOperationException", 1)] (fun v2 M1 =>
  wL M1 l1 (0 : Int32) v2.toInt64 (fun M3 =>
  some (.inl (some (.int (0 : Int32))), M3))))
set_option maxHeartbeats 4000000 in
set_option maxRecDepth 100000 in
theorem E_XLaw_truth {g : qG} {X : qX} {Z : qZ} (hn : 8 ≤ zn Z) (hl : 122 ≤ zl Z) {n : Nat} {l0 : Nat} {l1 : Nat} {M : PM} (h : F_XLaw_truth n l0 l1 M = some (zr Z, zf Z)) : EW Y_XLaw_truth g X Z 0 [(0, .ref l0), (1, .ref l1)] [] M := by
  unfold F_XLaw_truth at h
  refine ew_aload_n 1 d_XLaw_truth_0 rfl rfl ?_
  refine ew_iconst (0) d_XLaw_truth_1 (by decide) ?_
  refine ew_aload_n 0 d_XLaw_truth_2 rfl rfl ?_
  obtain ⟨kM1, h⟩ := kO_inv h
  rcases Or.symm (xI_inv h) with ⟨EM1, wM1, NM1, hM1, hwM1, h⟩ | ⟨v2, M1, hM1, h⟩
  · obtain ⟨hz, hm⟩ := Prod.mk.inj h
    rcases List.mem_cons.mp hwM1 with q9 | hwM1
    · obtain ⟨rfl, rfl⟩ := Prod.mk.inj q9
      exact ew_callVx 1 [] d_XLaw_truth_3 cv_XLaw_15 lk_XLaw_15 (T_X_truth hM1) kM1 (Nat.le_trans (Nat.le_of_ble_eq_true rfl) hn) (Nat.le_trans (Nat.le_of_ble_eq_true rfl) hl) (Nat.le_of_ble_eq_true rfl) rfl (ew_caught ca_XLaw_truth_0 (ew_iconst (1) d_XLaw_truth_12 (by decide) (ew_ireturn d_XLaw_truth_13 rfl hz hm)))
    cases hwM1
  refine ew_callV 1 [] d_XLaw_truth_3 cv_XLaw_15 (T_X_truth hM1) kM1 (Nat.le_trans (Nat.le_of_ble_eq_true rfl) hn) (Nat.le_trans (Nat.le_of_ble_eq_true rfl) hl) (Nat.le_of_ble_eq_true rfl) rfl rfl ?_
  refine ew_i2l d_XLaw_truth_6 ?_
  obtain ⟨M3, aM3, bM3, cM3, eM3, h⟩ := wL_inv h
  refine ew_wL d_XLaw_truth_7 aM3 bM3 cM3 eM3 ?_
  refine ew_goto 14 d_XLaw_truth_8 (by decide) ?_
  refine ew_iconst (0) d_XLaw_truth_14 (by decide) ?_
  obtain ⟨hz, hm⟩ := Prod.mk.inj (Option.some.inj h)
  exact ew_ireturn d_XLaw_truth_15 rfl hz.symm hm.symm
theorem T_XLaw_truth {n : Nat} {l0 : Nat} {l1 : Nat} {M Mf : PM} {res : qRs} (h : F_XLaw_truth n l0 l1 M = some (res, Mf)) : CTw Y_XLaw_truth 8 122 [.ref l0, .ref l1] M res Mf :=
  CTw_of (by decide) (Nat.le_of_ble_eq_true rfl) (fun g X ad0 => E_XLaw_truth (g := g) (X := X) (Z := (ad0, M, res, Mf, 8, 122)) (Nat.le_refl _) (Nat.le_refl _) h)
theorem d_XLaw_apply_0 : decode Y_XLaw_apply.2.1 0 = .ok (.aload 4, 2) := by decide +kernel
theorem d_XLaw_apply_2 : decode Y_XLaw_apply.2.1 2 = .ok (.iconst 0, 1) := by decide +kernel
theorem d_XLaw_apply_3 : decode Y_XLaw_apply.2.1 3 = .ok (.aload_n 0, 1) := by decide +kernel
theorem d_XLaw_apply_4 : decode Y_XLaw_apply.2.1 4 = .ok (.iload_n 1, 1) := by decide +kernel
theorem d_XLaw_apply_5 : decode Y_XLaw_apply.2.1 5 = .ok (.iload_n 2, 1) := by decide +kernel
theorem d_XLaw_apply_6 : decode Y_XLaw_apply.2.1 6 = .ok (.iload_n 3, 1) := by decide +kernel
theorem d_XLaw_apply_7 : decode Y_XLaw_apply.2.1 7 = .ok (.invokevirtual 18, 3) := by decide +kernel
theorem d_XLaw_apply_10 : decode Y_XLaw_apply.2.1 10 = .ok (.i2l, 1) := by decide +kernel
theorem d_XLaw_apply_11 : decode Y_XLaw_apply.2.1 11 = .ok (.lastore, 1) := by decide +kernel
theorem d_XLaw_apply_12 : decode Y_XLaw_apply.2.1 12 = .ok (.goto (15), 3) := by decide +kernel
theorem d_XLaw_apply_17 : decode Y_XLaw_apply.2.1 17 = .ok (.iconst 1, 1) := by decide +kernel
theorem d_XLaw_apply_18 : decode Y_XLaw_apply.2.1 18 = .ok (.ireturn, 1) := by decide +kernel
theorem d_XLaw_apply_21 : decode Y_XLaw_apply.2.1 21 = .ok (.iconst 2, 1) := by decide +kernel
theorem d_XLaw_apply_22 : decode Y_XLaw_apply.2.1 22 = .ok (.ireturn, 1) := by decide +kernel
theorem d_XLaw_apply_25 : decode Y_XLaw_apply.2.1 25 = .ok (.iconst 3, 1) := by decide +kernel
theorem d_XLaw_apply_26 : decode Y_XLaw_apply.2.1 26 = .ok (.ireturn, 1) := by decide +kernel
theorem d_XLaw_apply_27 : decode Y_XLaw_apply.2.1 27 = .ok (.iconst 0, 1) := by decide +kernel
theorem d_XLaw_apply_28 : decode Y_XLaw_apply.2.1 28 = .ok (.ireturn, 1) := by decide +kernel
def F_XLaw_apply (n : Nat) (l0 : Nat) (l1 : Int32) (l2 : Int32) (l3 : Int32) (l4 : Nat) (M : PM) : qO :=
  kO 1 M l0 (
  xI (F_X_apply n l0 l1 l2 l3 M) [("java/lang/IndexOutOfBoundsException", 1), ("java/lang/IllegalArgumentException", 2), ("java/lang/UnsupportedOperationException", 3)] (fun v2 M1 =>
  wL M1 l4 (0 : Int32) v2.toInt64 (fun M3 =>
  some (.inl (some (.int (0 : Int32))), M3))))
set_option maxHeartbeats 4000000 in
set_option maxRecDepth 100000 in
theorem E_XLaw_apply {g : qG} {X : qX} {Z : qZ} (hn : 8 ≤ zn Z) (hl : 126 ≤ zl Z) {n : Nat} {l0 : Nat} {l1 : Int32} {l2 : Int32} {l3 : Int32} {l4 : Nat} {M : PM} (h : F_XLaw_apply n l0 l1 l2 l3 l4 M = some (zr Z, zf Z)) : EW Y_XLaw_apply g X Z 0 [(0, .ref l0), (1, .int l1), (2, .int l2), (3, .int l3), (4, .ref l4)] [] M := by
  unfold F_XLaw_apply at h
  refine ew_aload d_XLaw_apply_0 rfl ?_
  refine ew_iconst (0) d_XLaw_apply_2 (by decide) ?_
  refine ew_aload_n 0 d_XLaw_apply_3 rfl rfl ?_
  refine ew_iload_n 1 d_XLaw_apply_4 rfl rfl ?_
  refine ew_iload_n 2 d_XLaw_apply_5 rfl rfl ?_
  refine ew_iload_n 3 d_XLaw_apply_6 rfl rfl ?_
  obtain ⟨kM1, h⟩ := kO_inv h
  rcases Or.symm (xI_inv h) with ⟨EM1, wM1, NM1, hM1, hwM1, h⟩ | ⟨v2, M1, hM1, h⟩
  · obtain ⟨hz, hm⟩ := Prod.mk.inj h
    rcases List.mem_cons.mp hwM1 with q9 | hwM1
    · obtain ⟨rfl, rfl⟩ := Prod.mk.inj q9
      exact ew_callVx 1 [.int l1, .int l2, .int l3] d_XLaw_apply_7 cv_XLaw_18 lk_XLaw_18 (T_X_apply hM1) kM1 (Nat.le_trans (Nat.le_of_ble_eq_true rfl) hn) (Nat.le_trans (Nat.le_of_ble_eq_true rfl) hl) (Nat.le_of_ble_eq_true rfl) rfl (ew_caught ca_XLaw_apply_0 (ew_iconst (1) d_XLaw_apply_17 (by decide) (ew_ireturn d_XLaw_apply_18 rfl hz hm)))
    rcases List.mem_cons.mp hwM1 with q9 | hwM1
    · obtain ⟨rfl, rfl⟩ := Prod.mk.inj q9
      exact ew_callVx 1 [.int l1, .int l2, .int l3] d_XLaw_apply_7 cv_XLaw_18 lk_XLaw_18 (T_X_apply hM1) kM1 (Nat.le_trans (Nat.le_of_ble_eq_true rfl) hn) (Nat.le_trans (Nat.le_of_ble_eq_true rfl) hl) (Nat.le_of_ble_eq_true rfl) rfl (ew_caught ca_XLaw_apply_1 (ew_iconst (2) d_XLaw_apply_21 (by decide) (ew_ireturn d_XLaw_apply_22 rfl hz hm)))
    rcases List.mem_cons.mp hwM1 with q9 | hwM1
    · obtain ⟨rfl, rfl⟩ := Prod.mk.inj q9
      exact ew_callVx 1 [.int l1, .int l2, .int l3] d_XLaw_apply_7 cv_XLaw_18 lk_XLaw_18 (T_X_apply hM1) kM1 (Nat.le_trans (Nat.le_of_ble_eq_true rfl) hn) (Nat.le_trans (Nat.le_of_ble_eq_true rfl) hl) (Nat.le_of_ble_eq_true rfl) rfl (ew_caught ca_XLaw_apply_2 (ew_iconst (3) d_XLaw_apply_25 (by decide) (ew_ireturn d_XLaw_apply_26 rfl hz hm)))
    cases hwM1
  refine ew_callV 1 [.int l1, .int l2, .int l3] d_XLaw_apply_7 cv_XLaw_18 (T_X_apply hM1) kM1 (Nat.le_trans (Nat.le_of_ble_eq_true rfl) hn) (Nat.le_trans (Nat.le_of_ble_eq_true rfl) hl) (Nat.le_of_ble_eq_true rfl) rfl rfl ?_
  refine ew_i2l d_XLaw_apply_10 ?_
  obtain ⟨M3, aM3, bM3, cM3, eM3, h⟩ := wL_inv h
  refine ew_wL d_XLaw_apply_11 aM3 bM3 cM3 eM3 ?_
  refine ew_goto 27 d_XLaw_apply_12 (by decide) ?_
  refine ew_iconst (0) d_XLaw_apply_27 (by decide) ?_
  obtain ⟨hz, hm⟩ := Prod.mk.inj (Option.some.inj h)
  exact ew_ireturn d_XLaw_apply_28 rfl hz.symm hm.symm
theorem T_XLaw_apply {n : Nat} {l0 : Nat} {l1 : Int32} {l2 : Int32} {l3 : Int32} {l4 : Nat} {M Mf : PM} {res : qRs} (h : F_XLaw_apply n l0 l1 l2 l3 l4 M = some (res, Mf)) : CTw Y_XLaw_apply 8 126 [.ref l0, .int l1, .int l2, .int l3, .ref l4] M res Mf :=
  CTw_of (by decide) (Nat.le_of_ble_eq_true rfl) (fun g X ad0 => E_XLaw_apply (g := g) (X := X) (Z := (ad0, M, res, Mf, 8, 126)) (Nat.le_refl _) (Nat.le_refl _) h)
theorem d_XLaw_equal_0 : decode Y_XLaw_equal.2.1 0 = .ok (.aload_n 3, 1) := by decide +kernel
theorem d_XLaw_equal_1 : decode Y_XLaw_equal.2.1 1 = .ok (.iconst 0, 1) := by decide +kernel
theorem d_XLaw_equal_2 : decode Y_XLaw_equal.2.1 2 = .ok (.aload_n 0, 1) := by decide +kernel
theorem d_XLaw_equal_3 : decode Y_XLaw_equal.2.1 3 = .ok (.iload_n 1, 1) := by decide +kernel
theorem d_XLaw_equal_4 : decode Y_XLaw_equal.2.1 4 = .ok (.iload_n 2, 1) := by decide +kernel
theorem d_XLaw_equal_5 : decode Y_XLaw_equal.2.1 5 = .ok (.invokevirtual 26, 3) := by decide +kernel
theorem d_XLaw_equal_8 : decode Y_XLaw_equal.2.1 8 = .ok (.i2l, 1) := by decide +kernel
theorem d_XLaw_equal_9 : decode Y_XLaw_equal.2.1 9 = .ok (.lastore, 1) := by decide +kernel
theorem d_XLaw_equal_10 : decode Y_XLaw_equal.2.1 10 = .ok (.goto (15), 3) := by decide +kernel
theorem d_XLaw_equal_15 : decode Y_XLaw_equal.2.1 15 = .ok (.iconst 1, 1) := by decide +kernel
theorem d_XLaw_equal_16 : decode Y_XLaw_equal.2.1 16 = .ok (.ireturn, 1) := by decide +kernel
theorem d_XLaw_equal_19 : decode Y_XLaw_equal.2.1 19 = .ok (.iconst 2, 1) := by decide +kernel
theorem d_XLaw_equal_20 : decode Y_XLaw_equal.2.1 20 = .ok (.ireturn, 1) := by decide +kernel
theorem d_XLaw_equal_23 : decode Y_XLaw_equal.2.1 23 = .ok (.iconst 3, 1) := by decide +kernel
theorem d_XLaw_equal_24 : decode Y_XLaw_equal.2.1 24 = .ok (.ireturn, 1) := by decide +kernel
theorem d_XLaw_equal_25 : decode Y_XLaw_equal.2.1 25 = .ok (.iconst 0, 1) := by decide +kernel
theorem d_XLaw_equal_26 : decode Y_XLaw_equal.2.1 26 = .ok (.ireturn, 1) := by decide +kernel
def F_XLaw_equal (n : Nat) (l0 : Nat) (l1 : Int32) (l2 : Int32) (l3 : Nat) (M : PM) : qO :=
  kO 1 M l0 (
  xI (F_X_equal n l0 l1 l2 M) [("java/lang/IndexOutOfBoundsException", 1), ("java/lang/IllegalArgumentException", 2), ("java/lang/UnsupportedOperationException", 3)] (fun v2 M1 =>
  wL M1 l3 (0 : Int32) v2.toInt64 (fun M3 =>
  some (.inl (some (.int (0 : Int32))), M3))))
set_option maxHeartbeats 4000000 in
set_option maxRecDepth 100000 in
theorem E_XLaw_equal {g : qG} {X : qX} {Z : qZ} (hn : 8 ≤ zn Z) (hl : 125 ≤ zl Z) {n : Nat} {l0 : Nat} {l1 : Int32} {l2 : Int32} {l3 : Nat} {M : PM} (h : F_XLaw_equal n l0 l1 l2 l3 M = some (zr Z, zf Z)) : EW Y_XLaw_equal g X Z 0 [(0, .ref l0), (1, .int l1), (2, .int l2), (3, .ref l3)] [] M := by
  unfold F_XLaw_equal at h
  refine ew_aload_n 3 d_XLaw_equal_0 rfl rfl ?_
  refine ew_iconst (0) d_XLaw_equal_1 (by decide) ?_
  refine ew_aload_n 0 d_XLaw_equal_2 rfl rfl ?_
  refine ew_iload_n 1 d_XLaw_equal_3 rfl rfl ?_
  refine ew_iload_n 2 d_XLaw_equal_4 rfl rfl ?_
  obtain ⟨kM1, h⟩ := kO_inv h
  rcases Or.symm (xI_inv h) with ⟨EM1, wM1, NM1, hM1, hwM1, h⟩ | ⟨v2, M1, hM1, h⟩
  · obtain ⟨hz, hm⟩ := Prod.mk.inj h
    rcases List.mem_cons.mp hwM1 with q9 | hwM1
    · obtain ⟨rfl, rfl⟩ := Prod.mk.inj q9
      exact ew_callVx 1 [.int l1, .int l2] d_XLaw_equal_5 cv_XLaw_26 lk_XLaw_26 (T_X_equal hM1) kM1 (Nat.le_trans (Nat.le_of_ble_eq_true rfl) hn) (Nat.le_trans (Nat.le_of_ble_eq_true rfl) hl) (Nat.le_of_ble_eq_true rfl) rfl (ew_caught ca_XLaw_equal_0 (ew_iconst (1) d_XLaw_equal_15 (by decide) (ew_ireturn d_XLaw_equal_16 rfl hz hm)))
    rcases List.mem_cons.mp hwM1 with q9 | hwM1
    · obtain ⟨rfl, rfl⟩ := Prod.mk.inj q9
      exact ew_callVx 1 [.int l1, .int l2] d_XLaw_equal_5 cv_XLaw_26 lk_XLaw_26 (T_X_equal hM1) kM1 (Nat.le_trans (Nat.le_of_ble_eq_true rfl) hn) (Nat.le_trans (Nat.le_of_ble_eq_true rfl) hl) (Nat.le_of_ble_eq_true rfl) rfl (ew_caught ca_XLaw_equal_1 (ew_iconst (2) d_XLaw_equal_19 (by decide) (ew_ireturn d_XLaw_equal_20 rfl hz hm)))
    rcases List.mem_cons.mp hwM1 with q9 | hwM1
    · obtain ⟨rfl, rfl⟩ := Prod.mk.inj q9
      exact ew_callVx 1 [.int l1, .int l2] d_XLaw_equal_5 cv_XLaw_26 lk_XLaw_26 (T_X_equal hM1) kM1 (Nat.le_trans (Nat.le_of_ble_eq_true rfl) hn) (Nat.le_trans (Nat.le_of_ble_eq_true rfl) hl) (Nat.le_of_ble_eq_true rfl) rfl (ew_caught ca_XLaw_equal_2 (ew_iconst (3) d_XLaw_equal_23 (by decide) (ew_ireturn d_XLaw_equal_24 rfl hz hm)))
    cases hwM1
  refine ew_callV 1 [.int l1, .int l2] d_XLaw_equal_5 cv_XLaw_26 (T_X_equal hM1) kM1 (Nat.le_trans (Nat.le_of_ble_eq_true rfl) hn) (Nat.le_trans (Nat.le_of_ble_eq_true rfl) hl) (Nat.le_of_ble_eq_true rfl) rfl rfl ?_
  refine ew_i2l d_XLaw_equal_8 ?_
  obtain ⟨M3, aM3, bM3, cM3, eM3, h⟩ := wL_inv h
  refine ew_wL d_XLaw_equal_9 aM3 bM3 cM3 eM3 ?_
  refine ew_goto 25 d_XLaw_equal_10 (by decide) ?_
  refine ew_iconst (0) d_XLaw_equal_25 (by decide) ?_
  obtain ⟨hz, hm⟩ := Prod.mk.inj (Option.some.inj h)
  exact ew_ireturn d_XLaw_equal_26 rfl hz.symm hm.symm
theorem T_XLaw_equal {n : Nat} {l0 : Nat} {l1 : Int32} {l2 : Int32} {l3 : Nat} {M Mf : PM} {res : qRs} (h : F_XLaw_equal n l0 l1 l2 l3 M = some (res, Mf)) : CTw Y_XLaw_equal 8 125 [.ref l0, .int l1, .int l2, .ref l3] M res Mf :=
  CTw_of (by decide) (Nat.le_of_ble_eq_true rfl) (fun g X ad0 => E_XLaw_equal (g := g) (X := X) (Z := (ad0, M, res, Mf, 8, 125)) (Nat.le_refl _) (Nat.le_refl _) h)
theorem d_XLaw_not_0 : decode Y_XLaw_not.2.1 0 = .ok (.aload_n 2, 1) := by decide +kernel
theorem d_XLaw_not_1 : decode Y_XLaw_not.2.1 1 = .ok (.iconst 0, 1) := by decide +kernel
theorem d_XLaw_not_2 : decode Y_XLaw_not.2.1 2 = .ok (.aload_n 0, 1) := by decide +kernel
theorem d_XLaw_not_3 : decode Y_XLaw_not.2.1 3 = .ok (.iload_n 1, 1) := by decide +kernel
theorem d_XLaw_not_4 : decode Y_XLaw_not.2.1 4 = .ok (.invokevirtual 30, 3) := by decide +kernel
theorem d_XLaw_not_7 : decode Y_XLaw_not.2.1 7 = .ok (.i2l, 1) := by decide +kernel
theorem d_XLaw_not_8 : decode Y_XLaw_not.2.1 8 = .ok (.lastore, 1) := by decide +kernel
theorem d_XLaw_not_9 : decode Y_XLaw_not.2.1 9 = .ok (.goto (12), 3) := by decide +kernel
theorem d_XLaw_not_13 : decode Y_XLaw_not.2.1 13 = .ok (.iconst 1, 1) := by decide +kernel
theorem d_XLaw_not_14 : decode Y_XLaw_not.2.1 14 = .ok (.ireturn, 1) := by decide +kernel
theorem d_XLaw_not_16 : decode Y_XLaw_not.2.1 16 = .ok (.iconst 2, 1) := by decide +kernel
theorem d_XLaw_not_17 : decode Y_XLaw_not.2.1 17 = .ok (.ireturn, 1) := by decide +kernel
theorem d_XLaw_not_19 : decode Y_XLaw_not.2.1 19 = .ok (.iconst 3, 1) := by decide +kernel
theorem d_XLaw_not_20 : decode Y_XLaw_not.2.1 20 = .ok (.ireturn, 1) := by decide +kernel
theorem d_XLaw_not_21 : decode Y_XLaw_not.2.1 21 = .ok (.iconst 0, 1) := by decide +kernel
theorem d_XLaw_not_22 : decode Y_XLaw_not.2.1 22 = .ok (.ireturn, 1) := by decide +kernel
def F_XLaw_not (n : Nat) (l0 : Nat) (l1 : Int32) (l2 : Nat) (M : PM) : qO :=
  kO 1 M l0 (
  xI (F_X_not n l0 l1 M) [("java/lang/IndexOutOfBoundsException", 1), ("java/lang/IllegalArgumentException", 2), ("java/lang/UnsupportedOperationException", 3)] (fun v2 M1 =>
  wL M1 l2 (0 : Int32) v2.toInt64 (fun M3 =>
  some (.inl (some (.int (0 : Int32))), M3))))
set_option maxHeartbeats 4000000 in
set_option maxRecDepth 100000 in
theorem E_XLaw_not {g : qG} {X : qX} {Z : qZ} (hn : 8 ≤ zn Z) (hl : 124 ≤ zl Z) {n : Nat} {l0 : Nat} {l1 : Int32} {l2 : Nat} {M : PM} (h : F_XLaw_not n l0 l1 l2 M = some (zr Z, zf Z)) : EW Y_XLaw_not g X Z 0 [(0, .ref l0), (1, .int l1), (2, .ref l2)] [] M := by
  unfold F_XLaw_not at h
  refine ew_aload_n 2 d_XLaw_not_0 rfl rfl ?_
  refine ew_iconst (0) d_XLaw_not_1 (by decide) ?_
  refine ew_aload_n 0 d_XLaw_not_2 rfl rfl ?_
  refine ew_iload_n 1 d_XLaw_not_3 rfl rfl ?_
  obtain ⟨kM1, h⟩ := kO_inv h
  rcases Or.symm (xI_inv h) with ⟨EM1, wM1, NM1, hM1, hwM1, h⟩ | ⟨v2, M1, hM1, h⟩
  · obtain ⟨hz, hm⟩ := Prod.mk.inj h
    rcases List.mem_cons.mp hwM1 with q9 | hwM1
    · obtain ⟨rfl, rfl⟩ := Prod.mk.inj q9
      exact ew_callVx 1 [.int l1] d_XLaw_not_4 cv_XLaw_30 lk_XLaw_30 (T_X_not hM1) kM1 (Nat.le_trans (Nat.le_of_ble_eq_true rfl) hn) (Nat.le_trans (Nat.le_of_ble_eq_true rfl) hl) (Nat.le_of_ble_eq_true rfl) rfl (ew_caught ca_XLaw_not_0 (ew_iconst (1) d_XLaw_not_13 (by decide) (ew_ireturn d_XLaw_not_14 rfl hz hm)))
    rcases List.mem_cons.mp hwM1 with q9 | hwM1
    · obtain ⟨rfl, rfl⟩ := Prod.mk.inj q9
      exact ew_callVx 1 [.int l1] d_XLaw_not_4 cv_XLaw_30 lk_XLaw_30 (T_X_not hM1) kM1 (Nat.le_trans (Nat.le_of_ble_eq_true rfl) hn) (Nat.le_trans (Nat.le_of_ble_eq_true rfl) hl) (Nat.le_of_ble_eq_true rfl) rfl (ew_caught ca_XLaw_not_1 (ew_iconst (2) d_XLaw_not_16 (by decide) (ew_ireturn d_XLaw_not_17 rfl hz hm)))
    rcases List.mem_cons.mp hwM1 with q9 | hwM1
    · obtain ⟨rfl, rfl⟩ := Prod.mk.inj q9
      exact ew_callVx 1 [.int l1] d_XLaw_not_4 cv_XLaw_30 lk_XLaw_30 (T_X_not hM1) kM1 (Nat.le_trans (Nat.le_of_ble_eq_true rfl) hn) (Nat.le_trans (Nat.le_of_ble_eq_true rfl) hl) (Nat.le_of_ble_eq_true rfl) rfl (ew_caught ca_XLaw_not_2 (ew_iconst (3) d_XLaw_not_19 (by decide) (ew_ireturn d_XLaw_not_20 rfl hz hm)))
    cases hwM1
  refine ew_callV 1 [.int l1] d_XLaw_not_4 cv_XLaw_30 (T_X_not hM1) kM1 (Nat.le_trans (Nat.le_of_ble_eq_true rfl) hn) (Nat.le_trans (Nat.le_of_ble_eq_true rfl) hl) (Nat.le_of_ble_eq_true rfl) rfl rfl ?_
  refine ew_i2l d_XLaw_not_7 ?_
  obtain ⟨M3, aM3, bM3, cM3, eM3, h⟩ := wL_inv h
  refine ew_wL d_XLaw_not_8 aM3 bM3 cM3 eM3 ?_
  refine ew_goto 21 d_XLaw_not_9 (by decide) ?_
  refine ew_iconst (0) d_XLaw_not_21 (by decide) ?_
  obtain ⟨hz, hm⟩ := Prod.mk.inj (Option.some.inj h)
  exact ew_ireturn d_XLaw_not_22 rfl hz.symm hm.symm
theorem T_XLaw_not {n : Nat} {l0 : Nat} {l1 : Int32} {l2 : Nat} {M Mf : PM} {res : qRs} (h : F_XLaw_not n l0 l1 l2 M = some (res, Mf)) : CTw Y_XLaw_not 8 124 [.ref l0, .int l1, .ref l2] M res Mf :=
  CTw_of (by decide) (Nat.le_of_ble_eq_true rfl) (fun g X ad0 => E_XLaw_not (g := g) (X := X) (Z := (ad0, M, res, Mf, 8, 124)) (Nat.le_refl _) (Nat.le_refl _) h)
theorem d_XLaw_both_0 : decode Y_XLaw_both.2.1 0 = .ok (.aload_n 3, 1) := by decide +kernel
theorem d_XLaw_both_1 : decode Y_XLaw_both.2.1 1 = .ok (.iconst 0, 1) := by decide +kernel
theorem d_XLaw_both_2 : decode Y_XLaw_both.2.1 2 = .ok (.aload_n 0, 1) := by decide +kernel
theorem d_XLaw_both_3 : decode Y_XLaw_both.2.1 3 = .ok (.iload_n 1, 1) := by decide +kernel
theorem d_XLaw_both_4 : decode Y_XLaw_both.2.1 4 = .ok (.iload_n 2, 1) := by decide +kernel
theorem d_XLaw_both_5 : decode Y_XLaw_both.2.1 5 = .ok (.invokevirtual 34, 3) := by decide +kernel
theorem d_XLaw_both_8 : decode Y_XLaw_both.2.1 8 = .ok (.i2l, 1) := by decide +kernel
theorem d_XLaw_both_9 : decode Y_XLaw_both.2.1 9 = .ok (.lastore, 1) := by decide +kernel
theorem d_XLaw_both_10 : decode Y_XLaw_both.2.1 10 = .ok (.goto (15), 3) := by decide +kernel
theorem d_XLaw_both_15 : decode Y_XLaw_both.2.1 15 = .ok (.iconst 1, 1) := by decide +kernel
theorem d_XLaw_both_16 : decode Y_XLaw_both.2.1 16 = .ok (.ireturn, 1) := by decide +kernel
theorem d_XLaw_both_19 : decode Y_XLaw_both.2.1 19 = .ok (.iconst 2, 1) := by decide +kernel
theorem d_XLaw_both_20 : decode Y_XLaw_both.2.1 20 = .ok (.ireturn, 1) := by decide +kernel
theorem d_XLaw_both_23 : decode Y_XLaw_both.2.1 23 = .ok (.iconst 3, 1) := by decide +kernel
theorem d_XLaw_both_24 : decode Y_XLaw_both.2.1 24 = .ok (.ireturn, 1) := by decide +kernel
theorem d_XLaw_both_25 : decode Y_XLaw_both.2.1 25 = .ok (.iconst 0, 1) := by decide +kernel
theorem d_XLaw_both_26 : decode Y_XLaw_both.2.1 26 = .ok (.ireturn, 1) := by decide +kernel
def F_XLaw_both (n : Nat) (l0 : Nat) (l1 : Int32) (l2 : Int32) (l3 : Nat) (M : PM) : qO :=
  kO 1 M l0 (
  xI (F_X_both n l0 l1 l2 M) [("java/lang/IndexOutOfBoundsException", 1), ("java/lang/IllegalArgumentException", 2), ("java/lang/UnsupportedOperationException", 3)] (fun v2 M1 =>
  wL M1 l3 (0 : Int32) v2.toInt64 (fun M3 =>
  some (.inl (some (.int (0 : Int32))), M3))))
set_option maxHeartbeats 4000000 in
set_option maxRecDepth 100000 in
theorem E_XLaw_both {g : qG} {X : qX} {Z : qZ} (hn : 8 ≤ zn Z) (hl : 125 ≤ zl Z) {n : Nat} {l0 : Nat} {l1 : Int32} {l2 : Int32} {l3 : Nat} {M : PM} (h : F_XLaw_both n l0 l1 l2 l3 M = some (zr Z, zf Z)) : EW Y_XLaw_both g X Z 0 [(0, .ref l0), (1, .int l1), (2, .int l2), (3, .ref l3)] [] M := by
  unfold F_XLaw_both at h
  refine ew_aload_n 3 d_XLaw_both_0 rfl rfl ?_
  refine ew_iconst (0) d_XLaw_both_1 (by decide) ?_
  refine ew_aload_n 0 d_XLaw_both_2 rfl rfl ?_
  refine ew_iload_n 1 d_XLaw_both_3 rfl rfl ?_
  refine ew_iload_n 2 d_XLaw_both_4 rfl rfl ?_
  obtain ⟨kM1, h⟩ := kO_inv h
  rcases Or.symm (xI_inv h) with ⟨EM1, wM1, NM1, hM1, hwM1, h⟩ | ⟨v2, M1, hM1, h⟩
  · obtain ⟨hz, hm⟩ := Prod.mk.inj h
    rcases List.mem_cons.mp hwM1 with q9 | hwM1
    · obtain ⟨rfl, rfl⟩ := Prod.mk.inj q9
      exact ew_callVx 1 [.int l1, .int l2] d_XLaw_both_5 cv_XLaw_34 lk_XLaw_34 (T_X_both hM1) kM1 (Nat.le_trans (Nat.le_of_ble_eq_true rfl) hn) (Nat.le_trans (Nat.le_of_ble_eq_true rfl) hl) (Nat.le_of_ble_eq_true rfl) rfl (ew_caught ca_XLaw_both_0 (ew_iconst (1) d_XLaw_both_15 (by decide) (ew_ireturn d_XLaw_both_16 rfl hz hm)))
    rcases List.mem_cons.mp hwM1 with q9 | hwM1
    · obtain ⟨rfl, rfl⟩ := Prod.mk.inj q9
      exact ew_callVx 1 [.int l1, .int l2] d_XLaw_both_5 cv_XLaw_34 lk_XLaw_34 (T_X_both hM1) kM1 (Nat.le_trans (Nat.le_of_ble_eq_true rfl) hn) (Nat.le_trans (Nat.le_of_ble_eq_true rfl) hl) (Nat.le_of_ble_eq_true rfl) rfl (ew_caught ca_XLaw_both_1 (ew_iconst (2) d_XLaw_both_19 (by decide) (ew_ireturn d_XLaw_both_20 rfl hz hm)))
    rcases List.mem_cons.mp hwM1 with q9 | hwM1
    · obtain ⟨rfl, rfl⟩ := Prod.mk.inj q9
      exact ew_callVx 1 [.int l1, .int l2] d_XLaw_both_5 cv_XLaw_34 lk_XLaw_34 (T_X_both hM1) kM1 (Nat.le_trans (Nat.le_of_ble_eq_true rfl) hn) (Nat.le_trans (Nat.le_of_ble_eq_true rfl) hl) (Nat.le_of_ble_eq_true rfl) rfl (ew_caught ca_XLaw_both_2 (ew_iconst (3) d_XLaw_both_23 (by decide) (ew_ireturn d_XLaw_both_24 rfl hz hm)))
    cases hwM1
  refine ew_callV 1 [.int l1, .int l2] d_XLaw_both_5 cv_XLaw_34 (T_X_both hM1) kM1 (Nat.le_trans (Nat.le_of_ble_eq_true rfl) hn) (Nat.le_trans (Nat.le_of_ble_eq_true rfl) hl) (Nat.le_of_ble_eq_true rfl) rfl rfl ?_
  refine ew_i2l d_XLaw_both_8 ?_
  obtain ⟨M3, aM3, bM3, cM3, eM3, h⟩ := wL_inv h
  refine ew_wL d_XLaw_both_9 aM3 bM3 cM3 eM3 ?_
  refine ew_goto 25 d_XLaw_both_10 (by decide) ?_
  refine ew_iconst (0) d_XLaw_both_25 (by decide) ?_
  obtain ⟨hz, hm⟩ := Prod.mk.inj (Option.some.inj h)
  exact ew_ireturn d_XLaw_both_26 rfl hz.symm hm.symm
theorem T_XLaw_both {n : Nat} {l0 : Nat} {l1 : Int32} {l2 : Int32} {l3 : Nat} {M Mf : PM} {res : qRs} (h : F_XLaw_both n l0 l1 l2 l3 M = some (res, Mf)) : CTw Y_XLaw_both 8 125 [.ref l0, .int l1, .int l2, .ref l3] M res Mf :=
  CTw_of (by decide) (Nat.le_of_ble_eq_true rfl) (fun g X ad0 => E_XLaw_both (g := g) (X := X) (Z := (ad0, M, res, Mf, 8, 125)) (Nat.le_refl _) (Nat.le_refl _) h)
theorem d_XLaw_choice_0 : decode Y_XLaw_choice.2.1 0 = .ok (.aload 4, 2) := by decide +kernel
theorem d_XLaw_choice_2 : decode Y_XLaw_choice.2.1 2 = .ok (.iconst 0, 1) := by decide +kernel
theorem d_XLaw_choice_3 : decode Y_XLaw_choice.2.1 3 = .ok (.aload_n 0, 1) := by decide +kernel
theorem d_XLaw_choice_4 : decode Y_XLaw_choice.2.1 4 = .ok (.iload_n 1, 1) := by decide +kernel
theorem d_XLaw_choice_5 : decode Y_XLaw_choice.2.1 5 = .ok (.iload_n 2, 1) := by decide +kernel
theorem d_XLaw_choice_6 : decode Y_XLaw_choice.2.1 6 = .ok (.iload_n 3, 1) := by decide +kernel
theorem d_XLaw_choice_7 : decode Y_XLaw_choice.2.1 7 = .ok (.invokevirtual 37, 3) := by decide +kernel
theorem d_XLaw_choice_10 : decode Y_XLaw_choice.2.1 10 = .ok (.i2l, 1) := by decide +kernel
theorem d_XLaw_choice_11 : decode Y_XLaw_choice.2.1 11 = .ok (.lastore, 1) := by decide +kernel
theorem d_XLaw_choice_12 : decode Y_XLaw_choice.2.1 12 = .ok (.goto (15), 3) := by decide +kernel
theorem d_XLaw_choice_17 : decode Y_XLaw_choice.2.1 17 = .ok (.iconst 1, 1) := by decide +kernel
theorem d_XLaw_choice_18 : decode Y_XLaw_choice.2.1 18 = .ok (.ireturn, 1) := by decide +kernel
theorem d_XLaw_choice_21 : decode Y_XLaw_choice.2.1 21 = .ok (.iconst 2, 1) := by decide +kernel
theorem d_XLaw_choice_22 : decode Y_XLaw_choice.2.1 22 = .ok (.ireturn, 1) := by decide +kernel
theorem d_XLaw_choice_25 : decode Y_XLaw_choice.2.1 25 = .ok (.iconst 3, 1) := by decide +kernel
theorem d_XLaw_choice_26 : decode Y_XLaw_choice.2.1 26 = .ok (.ireturn, 1) := by decide +kernel
theorem d_XLaw_choice_27 : decode Y_XLaw_choice.2.1 27 = .ok (.iconst 0, 1) := by decide +kernel
theorem d_XLaw_choice_28 : decode Y_XLaw_choice.2.1 28 = .ok (.ireturn, 1) := by decide +kernel
def F_XLaw_choice (n : Nat) (l0 : Nat) (l1 : Int32) (l2 : Int32) (l3 : Int32) (l4 : Nat) (M : PM) : qO :=
  kO 1 M l0 (
  xI (F_X_choice n l0 l1 l2 l3 M) [("java/lang/IndexOutOfBoundsException", 1), ("java/lang/IllegalArgumentException", 2), ("java/lang/UnsupportedOperationException", 3)] (fun v2 M1 =>
  wL M1 l4 (0 : Int32) v2.toInt64 (fun M3 =>
  some (.inl (some (.int (0 : Int32))), M3))))
set_option maxHeartbeats 4000000 in
set_option maxRecDepth 100000 in
theorem E_XLaw_choice {g : qG} {X : qX} {Z : qZ} (hn : 8 ≤ zn Z) (hl : 127 ≤ zl Z) {n : Nat} {l0 : Nat} {l1 : Int32} {l2 : Int32} {l3 : Int32} {l4 : Nat} {M : PM} (h : F_XLaw_choice n l0 l1 l2 l3 l4 M = some (zr Z, zf Z)) : EW Y_XLaw_choice g X Z 0 [(0, .ref l0), (1, .int l1), (2, .int l2), (3, .int l3), (4, .ref l4)] [] M := by
  unfold F_XLaw_choice at h
  refine ew_aload d_XLaw_choice_0 rfl ?_
  refine ew_iconst (0) d_XLaw_choice_2 (by decide) ?_
  refine ew_aload_n 0 d_XLaw_choice_3 rfl rfl ?_
  refine ew_iload_n 1 d_XLaw_choice_4 rfl rfl ?_
  refine ew_iload_n 2 d_XLaw_choice_5 rfl rfl ?_
  refine ew_iload_n 3 d_XLaw_choice_6 rfl rfl ?_
  obtain ⟨kM1, h⟩ := kO_inv h
  rcases Or.symm (xI_inv h) with ⟨EM1, wM1, NM1, hM1, hwM1, h⟩ | ⟨v2, M1, hM1, h⟩
  · obtain ⟨hz, hm⟩ := Prod.mk.inj h
    rcases List.mem_cons.mp hwM1 with q9 | hwM1
    · obtain ⟨rfl, rfl⟩ := Prod.mk.inj q9
      exact ew_callVx 1 [.int l1, .int l2, .int l3] d_XLaw_choice_7 cv_XLaw_37 lk_XLaw_37 (T_X_choice hM1) kM1 (Nat.le_trans (Nat.le_of_ble_eq_true rfl) hn) (Nat.le_trans (Nat.le_of_ble_eq_true rfl) hl) (Nat.le_of_ble_eq_true rfl) rfl (ew_caught ca_XLaw_choice_0 (ew_iconst (1) d_XLaw_choice_17 (by decide) (ew_ireturn d_XLaw_choice_18 rfl hz hm)))
    rcases List.mem_cons.mp hwM1 with q9 | hwM1
    · obtain ⟨rfl, rfl⟩ := Prod.mk.inj q9
      exact ew_callVx 1 [.int l1, .int l2, .int l3] d_XLaw_choice_7 cv_XLaw_37 lk_XLaw_37 (T_X_choice hM1) kM1 (Nat.le_trans (Nat.le_of_ble_eq_true rfl) hn) (Nat.le_trans (Nat.le_of_ble_eq_true rfl) hl) (Nat.le_of_ble_eq_true rfl) rfl (ew_caught ca_XLaw_choice_1 (ew_iconst (2) d_XLaw_choice_21 (by decide) (ew_ireturn d_XLaw_choice_22 rfl hz hm)))
    rcases List.mem_cons.mp hwM1 with q9 | hwM1
    · obtain ⟨rfl, rfl⟩ := Prod.mk.inj q9
      exact ew_callVx 1 [.int l1, .int l2, .int l3] d_XLaw_choice_7 cv_XLaw_37 lk_XLaw_37 (T_X_choice hM1) kM1 (Nat.le_trans (Nat.le_of_ble_eq_true rfl) hn) (Nat.le_trans (Nat.le_of_ble_eq_true rfl) hl) (Nat.le_of_ble_eq_true rfl) rfl (ew_caught ca_XLaw_choice_2 (ew_iconst (3) d_XLaw_choice_25 (by decide) (ew_ireturn d_XLaw_choice_26 rfl hz hm)))
    cases hwM1
  refine ew_callV 1 [.int l1, .int l2, .int l3] d_XLaw_choice_7 cv_XLaw_37 (T_X_choice hM1) kM1 (Nat.le_trans (Nat.le_of_ble_eq_true rfl) hn) (Nat.le_trans (Nat.le_of_ble_eq_true rfl) hl) (Nat.le_of_ble_eq_true rfl) rfl rfl ?_
  refine ew_i2l d_XLaw_choice_10 ?_
  obtain ⟨M3, aM3, bM3, cM3, eM3, h⟩ := wL_inv h
  refine ew_wL d_XLaw_choice_11 aM3 bM3 cM3 eM3 ?_
  refine ew_goto 27 d_XLaw_choice_12 (by decide) ?_
  refine ew_iconst (0) d_XLaw_choice_27 (by decide) ?_
  obtain ⟨hz, hm⟩ := Prod.mk.inj (Option.some.inj h)
  exact ew_ireturn d_XLaw_choice_28 rfl hz.symm hm.symm
theorem T_XLaw_choice {n : Nat} {l0 : Nat} {l1 : Int32} {l2 : Int32} {l3 : Int32} {l4 : Nat} {M Mf : PM} {res : qRs} (h : F_XLaw_choice n l0 l1 l2 l3 l4 M = some (res, Mf)) : CTw Y_XLaw_choice 8 127 [.ref l0, .int l1, .int l2, .int l3, .ref l4] M res Mf :=
  CTw_of (by decide) (Nat.le_of_ble_eq_true rfl) (fun g X ad0 => E_XLaw_choice (g := g) (X := X) (Z := (ad0, M, res, Mf, 8, 127)) (Nat.le_refl _) (Nat.le_refl _) h)
theorem d_XLaw_next_0 : decode Y_XLaw_next.2.1 0 = .ok (.aload_n 3, 1) := by decide +kernel
theorem d_XLaw_next_1 : decode Y_XLaw_next.2.1 1 = .ok (.iconst 0, 1) := by decide +kernel
theorem d_XLaw_next_2 : decode Y_XLaw_next.2.1 2 = .ok (.aload_n 0, 1) := by decide +kernel
theorem d_XLaw_next_3 : decode Y_XLaw_next.2.1 3 = .ok (.iload_n 1, 1) := by decide +kernel
theorem d_XLaw_next_4 : decode Y_XLaw_next.2.1 4 = .ok (.iload_n 2, 1) := by decide +kernel
theorem d_XLaw_next_5 : decode Y_XLaw_next.2.1 5 = .ok (.invokevirtual 40, 3) := by decide +kernel
theorem d_XLaw_next_8 : decode Y_XLaw_next.2.1 8 = .ok (.ifCond .eq (7), 3) := by decide +kernel
theorem d_XLaw_next_11 : decode Y_XLaw_next.2.1 11 = .ok (.lconst 1, 1) := by decide +kernel
theorem d_XLaw_next_12 : decode Y_XLaw_next.2.1 12 = .ok (.goto (4), 3) := by decide +kernel
theorem d_XLaw_next_15 : decode Y_XLaw_next.2.1 15 = .ok (.lconst 0, 1) := by decide +kernel
theorem d_XLaw_next_16 : decode Y_XLaw_next.2.1 16 = .ok (.lastore, 1) := by decide +kernel
theorem d_XLaw_next_17 : decode Y_XLaw_next.2.1 17 = .ok (.goto (11), 3) := by decide +kernel
theorem d_XLaw_next_22 : decode Y_XLaw_next.2.1 22 = .ok (.iconst 1, 1) := by decide +kernel
theorem d_XLaw_next_23 : decode Y_XLaw_next.2.1 23 = .ok (.ireturn, 1) := by decide +kernel
theorem d_XLaw_next_26 : decode Y_XLaw_next.2.1 26 = .ok (.iconst 2, 1) := by decide +kernel
theorem d_XLaw_next_27 : decode Y_XLaw_next.2.1 27 = .ok (.ireturn, 1) := by decide +kernel
theorem d_XLaw_next_28 : decode Y_XLaw_next.2.1 28 = .ok (.iconst 0, 1) := by decide +kernel
theorem d_XLaw_next_29 : decode Y_XLaw_next.2.1 29 = .ok (.ireturn, 1) := by decide +kernel
def F_XLaw_next_16 (n : Nat) (s0 : Nat) (s1 : Int32) (s2 : Int64) (M : PM) : qO :=
  wL M s0 s1 s2 (fun M1 =>
  some (.inl (some (.int (0 : Int32))), M1))
set_option maxHeartbeats 4000000 in
set_option maxRecDepth 100000 in
theorem E_XLaw_next_16 {g : qG} {X : qX} {Z : qZ} (hn : 8 ≤ zn Z) (hl : 126 ≤ zl Z) {n : Nat} {s0 : Nat} {s1 : Int32} {s2 : Int64} {M : PM} (h : F_XLaw_next_16 n s0 s1 s2 M = some (zr Z, zf Z)) : EW Y_XLaw_next g X Z 16 [] [.long s2, .int s1, .ref s0] M := by
  unfold F_XLaw_next_16 at h
  obtain ⟨M1, aM1, bM1, cM1, eM1, h⟩ := wL_inv h
  refine ew_wL d_XLaw_next_16 aM1 bM1 cM1 eM1 ?_
  refine ew_goto 28 d_XLaw_next_17 (by decide) ?_
  refine ew_iconst (0) d_XLaw_next_28 (by decide) ?_
  obtain ⟨hz, hm⟩ := Prod.mk.inj (Option.some.inj h)
  exact ew_ireturn d_XLaw_next_29 rfl hz.symm hm.symm
def F_XLaw_next (n : Nat) (l0 : Nat) (l1 : Int32) (l2 : Int32) (l3 : Nat) (M : PM) : qO :=
  kO 1 M l0 (
  xI (F_X_next n l0 l1 l2 M) [("java/lang/IndexOutOfBoundsException", 1), ("java/lang/IllegalArgumentException", 2)] (fun v2 M1 =>
  if v2 = (0 : Int32) then
    F_XLaw_next_16 n l3 (0 : Int32) (0 : Int64) M1
  else
    F_XLaw_next_16 n l3 (0 : Int32) (1 : Int64) M1))
set_option maxHeartbeats 4000000 in
set_option maxRecDepth 100000 in
theorem E_XLaw_next {g : qG} {X : qX} {Z : qZ} (hn : 8 ≤ zn Z) (hl : 126 ≤ zl Z) {n : Nat} {l0 : Nat} {l1 : Int32} {l2 : Int32} {l3 : Nat} {M : PM} (h : F_XLaw_next n l0 l1 l2 l3 M = some (zr Z, zf Z)) : EW Y_XLaw_next g X Z 0 [(0, .ref l0), (1, .int l1), (2, .int l2), (3, .ref l3)] [] M := by
  unfold F_XLaw_next at h
  refine ew_aload_n 3 d_XLaw_next_0 rfl rfl ?_
  refine ew_iconst (0) d_XLaw_next_1 (by decide) ?_
  refine ew_aload_n 0 d_XLaw_next_2 rfl rfl ?_
  refine ew_iload_n 1 d_XLaw_next_3 rfl rfl ?_
  refine ew_iload_n 2 d_XLaw_next_4 rfl rfl ?_
  obtain ⟨kM1, h⟩ := kO_inv h
  rcases Or.symm (xI_inv h) with ⟨EM1, wM1, NM1, hM1, hwM1, h⟩ | ⟨v2, M1, hM1, h⟩
  · obtain ⟨hz, hm⟩ := Prod.mk.inj h
    rcases List.mem_cons.mp hwM1 with q9 | hwM1
    · obtain ⟨rfl, rfl⟩ := Prod.mk.inj q9
      exact ew_callVx 1 [.int l1, .int l2] d_XLaw_next_5 cv_XLaw_40 lk_XLaw_40 (T_X_next hM1) kM1 (Nat.le_trans (Nat.le_of_ble_eq_true rfl) hn) (Nat.le_trans (Nat.le_of_ble_eq_true rfl) hl) (Nat.le_of_ble_eq_true rfl) rfl (ew_caught ca_XLaw_next_0 (ew_iconst (1) d_XLaw_next_22 (by decide) (ew_ireturn d_XLaw_next_23 rfl hz hm)))
    rcases List.mem_cons.mp hwM1 with q9 | hwM1
    · obtain ⟨rfl, rfl⟩ := Prod.mk.inj q9
      exact ew_callVx 1 [.int l1, .int l2] d_XLaw_next_5 cv_XLaw_40 lk_XLaw_40 (T_X_next hM1) kM1 (Nat.le_trans (Nat.le_of_ble_eq_true rfl) hn) (Nat.le_trans (Nat.le_of_ble_eq_true rfl) hl) (Nat.le_of_ble_eq_true rfl) rfl (ew_caught ca_XLaw_next_1 (ew_iconst (2) d_XLaw_next_26 (by decide) (ew_ireturn d_XLaw_next_27 rfl hz hm)))
    cases hwM1
  refine ew_callV 1 [.int l1, .int l2] d_XLaw_next_5 cv_XLaw_40 (T_X_next hM1) kM1 (Nat.le_trans (Nat.le_of_ble_eq_true rfl) hn) (Nat.le_trans (Nat.le_of_ble_eq_true rfl) hl) (Nat.le_of_ble_eq_true rfl) rfl rfl ?_
  refine ew_if_eq 15 d_XLaw_next_8 (by decide) (fun c3 => ?_) (fun c3 => ?_)
  · rw [if_pos c3] at h
    refine ew_lconst 0 d_XLaw_next_15 (by decide) ?_
    exact ew_pick (L' := []) [] rfl (E_XLaw_next_16 hn hl h)
  · rw [if_neg c3] at h
    refine ew_lconst 1 d_XLaw_next_11 (by decide) ?_
    refine ew_goto 16 d_XLaw_next_12 (by decide) ?_
    exact ew_pick (L' := []) [] rfl (E_XLaw_next_16 hn hl h)
theorem T_XLaw_next {n : Nat} {l0 : Nat} {l1 : Int32} {l2 : Int32} {l3 : Nat} {M Mf : PM} {res : qRs} (h : F_XLaw_next n l0 l1 l2 l3 M = some (res, Mf)) : CTw Y_XLaw_next 8 126 [.ref l0, .int l1, .int l2, .ref l3] M res Mf :=
  CTw_of (by decide) (Nat.le_of_ble_eq_true rfl) (fun g X ad0 => E_XLaw_next (g := g) (X := X) (Z := (ad0, M, res, Mf, 8, 126)) (Nat.le_refl _) (Nat.le_refl _) h)
theorem d_XLaw_plain_0 : decode Y_XLaw_plain.2.1 0 = .ok (.aload_n 3, 1) := by decide +kernel
theorem d_XLaw_plain_1 : decode Y_XLaw_plain.2.1 1 = .ok (.iconst 0, 1) := by decide +kernel
theorem d_XLaw_plain_2 : decode Y_XLaw_plain.2.1 2 = .ok (.aload_n 0, 1) := by decide +kernel
theorem d_XLaw_plain_3 : decode Y_XLaw_plain.2.1 3 = .ok (.iload_n 1, 1) := by decide +kernel
theorem d_XLaw_plain_4 : decode Y_XLaw_plain.2.1 4 = .ok (.iload_n 2, 1) := by decide +kernel
theorem d_XLaw_plain_5 : decode Y_XLaw_plain.2.1 5 = .ok (.invokevirtual 44, 3) := by decide +kernel
theorem d_XLaw_plain_8 : decode Y_XLaw_plain.2.1 8 = .ok (.ifCond .eq (7), 3) := by decide +kernel
theorem d_XLaw_plain_11 : decode Y_XLaw_plain.2.1 11 = .ok (.lconst 1, 1) := by decide +kernel
theorem d_XLaw_plain_12 : decode Y_XLaw_plain.2.1 12 = .ok (.goto (4), 3) := by decide +kernel
theorem d_XLaw_plain_15 : decode Y_XLaw_plain.2.1 15 = .ok (.lconst 0, 1) := by decide +kernel
theorem d_XLaw_plain_16 : decode Y_XLaw_plain.2.1 16 = .ok (.lastore, 1) := by decide +kernel
theorem d_XLaw_plain_17 : decode Y_XLaw_plain.2.1 17 = .ok (.goto (11), 3) := by decide +kernel
theorem d_XLaw_plain_22 : decode Y_XLaw_plain.2.1 22 = .ok (.iconst 1, 1) := by decide +kernel
theorem d_XLaw_plain_23 : decode Y_XLaw_plain.2.1 23 = .ok (.ireturn, 1) := by decide +kernel
theorem d_XLaw_plain_26 : decode Y_XLaw_plain.2.1 26 = .ok (.iconst 2, 1) := by decide +kernel
theorem d_XLaw_plain_27 : decode Y_XLaw_plain.2.1 27 = .ok (.ireturn, 1) := by decide +kernel
theorem d_XLaw_plain_28 : decode Y_XLaw_plain.2.1 28 = .ok (.iconst 0, 1) := by decide +kernel
theorem d_XLaw_plain_29 : decode Y_XLaw_plain.2.1 29 = .ok (.ireturn, 1) := by decide +kernel
def F_XLaw_plain_16 (n : Nat) (s0 : Nat) (s1 : Int32) (s2 : Int64) (M : PM) : qO :=
  wL M s0 s1 s2 (fun M1 =>
  some (.inl (some (.int (0 : Int32))), M1))
set_option maxHeartbeats 4000000 in
set_option maxRecDepth 100000 in
theorem E_XLaw_plain_16 {g : qG} {X : qX} {Z : qZ} (hn : 8 ≤ zn Z) (hl : 129 ≤ zl Z) {n : Nat} {s0 : Nat} {s1 : Int32} {s2 : Int64} {M : PM} (h : F_XLaw_plain_16 n s0 s1 s2 M = some (zr Z, zf Z)) : EW Y_XLaw_plain g X Z 16 [] [.long s2, .int s1, .ref s0] M := by
  unfold F_XLaw_plain_16 at h
  obtain ⟨M1, aM1, bM1, cM1, eM1, h⟩ := wL_inv h
  refine ew_wL d_XLaw_plain_16 aM1 bM1 cM1 eM1 ?_
  refine ew_goto 28 d_XLaw_plain_17 (by decide) ?_
  refine ew_iconst (0) d_XLaw_plain_28 (by decide) ?_
  obtain ⟨hz, hm⟩ := Prod.mk.inj (Option.some.inj h)
  exact ew_ireturn d_XLaw_plain_29 rfl hz.symm hm.symm
def F_XLaw_plain (n : Nat) (l0 : Nat) (l1 : Int32) (l2 : Int32) (l3 : Nat) (M : PM) : qO :=
  kO 1 M l0 (
  xI (F_X_plain n l0 l1 l2 M) [("java/lang/IndexOutOfBoundsException", 1), ("java/lang/IllegalArgumentException", 2)] (fun v2 M1 =>
  if v2 = (0 : Int32) then
    F_XLaw_plain_16 n l3 (0 : Int32) (0 : Int64) M1
  else
    F_XLaw_plain_16 n l3 (0 : Int32) (1 : Int64) M1))
set_option maxHeartbeats 4000000 in
set_option maxRecDepth 100000 in
theorem E_XLaw_plain {g : qG} {X : qX} {Z : qZ} (hn : 8 ≤ zn Z) (hl : 129 ≤ zl Z) {n : Nat} {l0 : Nat} {l1 : Int32} {l2 : Int32} {l3 : Nat} {M : PM} (h : F_XLaw_plain n l0 l1 l2 l3 M = some (zr Z, zf Z)) : EW Y_XLaw_plain g X Z 0 [(0, .ref l0), (1, .int l1), (2, .int l2), (3, .ref l3)] [] M := by
  unfold F_XLaw_plain at h
  refine ew_aload_n 3 d_XLaw_plain_0 rfl rfl ?_
  refine ew_iconst (0) d_XLaw_plain_1 (by decide) ?_
  refine ew_aload_n 0 d_XLaw_plain_2 rfl rfl ?_
  refine ew_iload_n 1 d_XLaw_plain_3 rfl rfl ?_
  refine ew_iload_n 2 d_XLaw_plain_4 rfl rfl ?_
  obtain ⟨kM1, h⟩ := kO_inv h
  rcases Or.symm (xI_inv h) with ⟨EM1, wM1, NM1, hM1, hwM1, h⟩ | ⟨v2, M1, hM1, h⟩
  · obtain ⟨hz, hm⟩ := Prod.mk.inj h
    rcases List.mem_cons.mp hwM1 with q9 | hwM1
    · obtain ⟨rfl, rfl⟩ := Prod.mk.inj q9
      exact ew_callVx 1 [.int l1, .int l2] d_XLaw_plain_5 cv_XLaw_44 lk_XLaw_44 (T_X_plain hM1) kM1 (Nat.le_trans (Nat.le_of_ble_eq_true rfl) hn) (Nat.le_trans (Nat.le_of_ble_eq_true rfl) hl) (Nat.le_of_ble_eq_true rfl) rfl (ew_caught ca_XLaw_plain_0 (ew_iconst (1) d_XLaw_plain_22 (by decide) (ew_ireturn d_XLaw_plain_23 rfl hz hm)))
    rcases List.mem_cons.mp hwM1 with q9 | hwM1
    · obtain ⟨rfl, rfl⟩ := Prod.mk.inj q9
      exact ew_callVx 1 [.int l1, .int l2] d_XLaw_plain_5 cv_XLaw_44 lk_XLaw_44 (T_X_plain hM1) kM1 (Nat.le_trans (Nat.le_of_ble_eq_true rfl) hn) (Nat.le_trans (Nat.le_of_ble_eq_true rfl) hl) (Nat.le_of_ble_eq_true rfl) rfl (ew_caught ca_XLaw_plain_1 (ew_iconst (2) d_XLaw_plain_26 (by decide) (ew_ireturn d_XLaw_plain_27 rfl hz hm)))
    cases hwM1
  refine ew_callV 1 [.int l1, .int l2] d_XLaw_plain_5 cv_XLaw_44 (T_X_plain hM1) kM1 (Nat.le_trans (Nat.le_of_ble_eq_true rfl) hn) (Nat.le_trans (Nat.le_of_ble_eq_true rfl) hl) (Nat.le_of_ble_eq_true rfl) rfl rfl ?_
  refine ew_if_eq 15 d_XLaw_plain_8 (by decide) (fun c3 => ?_) (fun c3 => ?_)
  · rw [if_pos c3] at h
    refine ew_lconst 0 d_XLaw_plain_15 (by decide) ?_
    exact ew_pick (L' := []) [] rfl (E_XLaw_plain_16 hn hl h)
  · rw [if_neg c3] at h
    refine ew_lconst 1 d_XLaw_plain_11 (by decide) ?_
    refine ew_goto 16 d_XLaw_plain_12 (by decide) ?_
    exact ew_pick (L' := []) [] rfl (E_XLaw_plain_16 hn hl h)
theorem T_XLaw_plain {n : Nat} {l0 : Nat} {l1 : Int32} {l2 : Int32} {l3 : Nat} {M Mf : PM} {res : qRs} (h : F_XLaw_plain n l0 l1 l2 l3 M = some (res, Mf)) : CTw Y_XLaw_plain 8 129 [.ref l0, .int l1, .int l2, .ref l3] M res Mf :=
  CTw_of (by decide) (Nat.le_of_ble_eq_true rfl) (fun g X ad0 => E_XLaw_plain (g := g) (X := X) (Z := (ad0, M, res, Mf, 8, 129)) (Nat.le_refl _) (Nat.le_refl _) h)
theorem d_XLaw_invariant_0 : decode Y_XLaw_invariant.2.1 0 = .ok (.aload_n 2, 1) := by decide +kernel
theorem d_XLaw_invariant_1 : decode Y_XLaw_invariant.2.1 1 = .ok (.iconst 0, 1) := by decide +kernel
theorem d_XLaw_invariant_2 : decode Y_XLaw_invariant.2.1 2 = .ok (.aload_n 0, 1) := by decide +kernel
theorem d_XLaw_invariant_3 : decode Y_XLaw_invariant.2.1 3 = .ok (.iload_n 1, 1) := by decide +kernel
theorem d_XLaw_invariant_4 : decode Y_XLaw_invariant.2.1 4 = .ok (.invokevirtual 47, 3) := by decide +kernel
theorem d_XLaw_invariant_7 : decode Y_XLaw_invariant.2.1 7 = .ok (.i2l, 1) := by decide +kernel
theorem d_XLaw_invariant_8 : decode Y_XLaw_invariant.2.1 8 = .ok (.lastore, 1) := by decide +kernel
theorem d_XLaw_invariant_9 : decode Y_XLaw_invariant.2.1 9 = .ok (.goto (12), 3) := by decide +kernel
theorem d_XLaw_invariant_13 : decode Y_XLaw_invariant.2.1 13 = .ok (.iconst 1, 1) := by decide +kernel
theorem d_XLaw_invariant_14 : decode Y_XLaw_invariant.2.1 14 = .ok (.ireturn, 1) := by decide +kernel
theorem d_XLaw_invariant_16 : decode Y_XLaw_invariant.2.1 16 = .ok (.iconst 2, 1) := by decide +kernel
theorem d_XLaw_invariant_17 : decode Y_XLaw_invariant.2.1 17 = .ok (.ireturn, 1) := by decide +kernel
theorem d_XLaw_invariant_19 : decode Y_XLaw_invariant.2.1 19 = .ok (.iconst 3, 1) := by decide +kernel
theorem d_XLaw_invariant_20 : decode Y_XLaw_invariant.2.1 20 = .ok (.ireturn, 1) := by decide +kernel
theorem d_XLaw_invariant_21 : decode Y_XLaw_invariant.2.1 21 = .ok (.iconst 0, 1) := by decide +kernel
theorem d_XLaw_invariant_22 : decode Y_XLaw_invariant.2.1 22 = .ok (.ireturn, 1) := by decide +kernel
def F_XLaw_invariant (n : Nat) (l0 : Nat) (l1 : Int32) (l2 : Nat) (M : PM) : qO :=
  kO 1 M l0 (
  xI (F_X_invariant n l0 l1 M) [("java/lang/IndexOutOfBoundsException", 1), ("java/lang/IllegalArgumentException", 2), ("java/lang/IllegalStateException", 3)] (fun v2 M1 =>
  wL M1 l2 (0 : Int32) v2.toInt64 (fun M3 =>
  some (.inl (some (.int (0 : Int32))), M3))))
set_option maxHeartbeats 4000000 in
set_option maxRecDepth 100000 in
theorem E_XLaw_invariant {g : qG} {X : qX} {Z : qZ} (hn : 8 ≤ zn Z) (hl : 128 ≤ zl Z) {n : Nat} {l0 : Nat} {l1 : Int32} {l2 : Nat} {M : PM} (h : F_XLaw_invariant n l0 l1 l2 M = some (zr Z, zf Z)) : EW Y_XLaw_invariant g X Z 0 [(0, .ref l0), (1, .int l1), (2, .ref l2)] [] M := by
  unfold F_XLaw_invariant at h
  refine ew_aload_n 2 d_XLaw_invariant_0 rfl rfl ?_
  refine ew_iconst (0) d_XLaw_invariant_1 (by decide) ?_
  refine ew_aload_n 0 d_XLaw_invariant_2 rfl rfl ?_
  refine ew_iload_n 1 d_XLaw_invariant_3 rfl rfl ?_
  obtain ⟨kM1, h⟩ := kO_inv h
  rcases Or.symm (xI_inv h) with ⟨EM1, wM1, NM1, hM1, hwM1, h⟩ | ⟨v2, M1, hM1, h⟩
  · obtain ⟨hz, hm⟩ := Prod.mk.inj h
    rcases List.mem_cons.mp hwM1 with q9 | hwM1
    · obtain ⟨rfl, rfl⟩ := Prod.mk.inj q9
      exact ew_callVx 1 [.int l1] d_XLaw_invariant_4 cv_XLaw_47 lk_XLaw_47 (T_X_invariant hM1) kM1 (Nat.le_trans (Nat.le_of_ble_eq_true rfl) hn) (Nat.le_trans (Nat.le_of_ble_eq_true rfl) hl) (Nat.le_of_ble_eq_true rfl) rfl (ew_caught ca_XLaw_invariant_0 (ew_iconst (1) d_XLaw_invariant_13 (by decide) (ew_ireturn d_XLaw_invariant_14 rfl hz hm)))
    rcases List.mem_cons.mp hwM1 with q9 | hwM1
    · obtain ⟨rfl, rfl⟩ := Prod.mk.inj q9
      exact ew_callVx 1 [.int l1] d_XLaw_invariant_4 cv_XLaw_47 lk_XLaw_47 (T_X_invariant hM1) kM1 (Nat.le_trans (Nat.le_of_ble_eq_true rfl) hn) (Nat.le_trans (Nat.le_of_ble_eq_true rfl) hl) (Nat.le_of_ble_eq_true rfl) rfl (ew_caught ca_XLaw_invariant_1 (ew_iconst (2) d_XLaw_invariant_16 (by decide) (ew_ireturn d_XLaw_invariant_17 rfl hz hm)))
    rcases List.mem_cons.mp hwM1 with q9 | hwM1
    · obtain ⟨rfl, rfl⟩ := Prod.mk.inj q9
      exact ew_callVx 1 [.int l1] d_XLaw_invariant_4 cv_XLaw_47 lk_XLaw_47 (T_X_invariant hM1) kM1 (Nat.le_trans (Nat.le_of_ble_eq_true rfl) hn) (Nat.le_trans (Nat.le_of_ble_eq_true rfl) hl) (Nat.le_of_ble_eq_true rfl) rfl (ew_caught ca_XLaw_invariant_2 (ew_iconst (3) d_XLaw_invariant_19 (by decide) (ew_ireturn d_XLaw_invariant_20 rfl hz hm)))
    cases hwM1
  refine ew_callV 1 [.int l1] d_XLaw_invariant_4 cv_XLaw_47 (T_X_invariant hM1) kM1 (Nat.le_trans (Nat.le_of_ble_eq_true rfl) hn) (Nat.le_trans (Nat.le_of_ble_eq_true rfl) hl) (Nat.le_of_ble_eq_true rfl) rfl rfl ?_
  refine ew_i2l d_XLaw_invariant_7 ?_
  obtain ⟨M3, aM3, bM3, cM3, eM3, h⟩ := wL_inv h
  refine ew_wL d_XLaw_invariant_8 aM3 bM3 cM3 eM3 ?_
  refine ew_goto 21 d_XLaw_invariant_9 (by decide) ?_
  refine ew_iconst (0) d_XLaw_invariant_21 (by decide) ?_
  obtain ⟨hz, hm⟩ := Prod.mk.inj (Option.some.inj h)
  exact ew_ireturn d_XLaw_invariant_22 rfl hz.symm hm.symm
theorem T_XLaw_invariant {n : Nat} {l0 : Nat} {l1 : Int32} {l2 : Nat} {M Mf : PM} {res : qRs} (h : F_XLaw_invariant n l0 l1 l2 M = some (res, Mf)) : CTw Y_XLaw_invariant 8 128 [.ref l0, .int l1, .ref l2] M res Mf :=
  CTw_of (by decide) (Nat.le_of_ble_eq_true rfl) (fun g X ad0 => E_XLaw_invariant (g := g) (X := X) (Z := (ad0, M, res, Mf, 8, 128)) (Nat.le_refl _) (Nat.le_refl _) h)
theorem d_XLaw_run_0 : decode Y_XLaw_run.2.1 0 = .ok (.aload_n 2, 1) := by decide +kernel
theorem d_XLaw_run_1 : decode Y_XLaw_run.2.1 1 = .ok (.iconst 0, 1) := by decide +kernel
theorem d_XLaw_run_2 : decode Y_XLaw_run.2.1 2 = .ok (.aload_n 0, 1) := by decide +kernel
theorem d_XLaw_run_3 : decode Y_XLaw_run.2.1 3 = .ok (.iload_n 1, 1) := by decide +kernel
theorem d_XLaw_run_4 : decode Y_XLaw_run.2.1 4 = .ok (.invokevirtual 52, 3) := by decide +kernel
theorem d_XLaw_run_7 : decode Y_XLaw_run.2.1 7 = .ok (.i2l, 1) := by decide +kernel
theorem d_XLaw_run_8 : decode Y_XLaw_run.2.1 8 = .ok (.lastore, 1) := by decide +kernel
theorem d_XLaw_run_9 : decode Y_XLaw_run.2.1 9 = .ok (.goto (6), 3) := by decide +kernel
theorem d_XLaw_run_13 : decode Y_XLaw_run.2.1 13 = .ok (.iconst 1, 1) := by decide +kernel
theorem d_XLaw_run_14 : decode Y_XLaw_run.2.1 14 = .ok (.ireturn, 1) := by decide +kernel
theorem d_XLaw_run_15 : decode Y_XLaw_run.2.1 15 = .ok (.iconst 0, 1) := by decide +kernel
theorem d_XLaw_run_16 : decode Y_XLaw_run.2.1 16 = .ok (.ireturn, 1) := by decide +kernel
def F_XLaw_run (n : Nat) (l0 : Nat) (l1 : Int32) (l2 : Nat) (M : PM) : qO :=
  kO 1 M l0 (
  xI (F_X_run n l0 l1 M) [("java/lang/IllegalArgumentException", 1)] (fun v2 M1 =>
  wL M1 l2 (0 : Int32) v2.toInt64 (fun M3 =>
  some (.inl (some (.int (0 : Int32))), M3))))
set_option maxHeartbeats 4000000 in
set_option maxRecDepth 100000 in
theorem E_XLaw_run {g : qG} {X : qX} {Z : qZ} (hn : 15 ≤ zn Z) (hl : 385 ≤ zl Z) {n : Nat} {l0 : Nat} {l1 : Int32} {l2 : Nat} {M : PM} (h : F_XLaw_run n l0 l1 l2 M = some (zr Z, zf Z)) : EW Y_XLaw_run g X Z 0 [(0, .ref l0), (1, .int l1), (2, .ref l2)] [] M := by
  unfold F_XLaw_run at h
  refine ew_aload_n 2 d_XLaw_run_0 rfl rfl ?_
  refine ew_iconst (0) d_XLaw_run_1 (by decide) ?_
  refine ew_aload_n 0 d_XLaw_run_2 rfl rfl ?_
  refine ew_iload_n 1 d_XLaw_run_3 rfl rfl ?_
  obtain ⟨kM1, h⟩ := kO_inv h
  rcases Or.symm (xI_inv h) with ⟨EM1, wM1, NM1, hM1, hwM1, h⟩ | ⟨v2, M1, hM1, h⟩
  · obtain ⟨hz, hm⟩ := Prod.mk.inj h
    rcases List.mem_cons.mp hwM1 with q9 | hwM1
    · obtain ⟨rfl, rfl⟩ := Prod.mk.inj q9
      exact ew_callVx 1 [.int l1] d_XLaw_run_4 cv_XLaw_52 lk_XLaw_52 (T_X_run hM1) kM1 (Nat.le_trans (Nat.le_of_ble_eq_true rfl) hn) (Nat.le_trans (Nat.le_of_ble_eq_true rfl) hl) (Nat.le_of_ble_eq_true rfl) rfl (ew_caught ca_XLaw_run_0 (ew_iconst (1) d_XLaw_run_13 (by decide) (ew_ireturn d_XLaw_run_14 rfl hz hm)))
    cases hwM1
  refine ew_callV 1 [.int l1] d_XLaw_run_4 cv_XLaw_52 (T_X_run hM1) kM1 (Nat.le_trans (Nat.le_of_ble_eq_true rfl) hn) (Nat.le_trans (Nat.le_of_ble_eq_true rfl) hl) (Nat.le_of_ble_eq_true rfl) rfl rfl ?_
  refine ew_i2l d_XLaw_run_7 ?_
  obtain ⟨M3, aM3, bM3, cM3, eM3, h⟩ := wL_inv h
  refine ew_wL d_XLaw_run_8 aM3 bM3 cM3 eM3 ?_
  refine ew_goto 15 d_XLaw_run_9 (by decide) ?_
  refine ew_iconst (0) d_XLaw_run_15 (by decide) ?_
  obtain ⟨hz, hm⟩ := Prod.mk.inj (Option.some.inj h)
  exact ew_ireturn d_XLaw_run_16 rfl hz.symm hm.symm
theorem T_XLaw_run {n : Nat} {l0 : Nat} {l1 : Int32} {l2 : Nat} {M Mf : PM} {res : qRs} (h : F_XLaw_run n l0 l1 l2 M = some (res, Mf)) : CTw Y_XLaw_run 15 385 [.ref l0, .int l1, .ref l2] M res Mf :=
  CTw_of (by decide) (Nat.le_of_ble_eq_true rfl) (fun g X ad0 => E_XLaw_run (g := g) (X := X) (Z := (ad0, M, res, Mf, 15, 385)) (Nat.le_refl _) (Nat.le_refl _) h)
theorem d_XLaw_kept_0 : decode Y_XLaw_kept.2.1 0 = .ok (.aload_n 2, 1) := by decide +kernel
theorem d_XLaw_kept_1 : decode Y_XLaw_kept.2.1 1 = .ok (.iconst 0, 1) := by decide +kernel
theorem d_XLaw_kept_2 : decode Y_XLaw_kept.2.1 2 = .ok (.aload_n 0, 1) := by decide +kernel
theorem d_XLaw_kept_3 : decode Y_XLaw_kept.2.1 3 = .ok (.iload_n 1, 1) := by decide +kernel
theorem d_XLaw_kept_4 : decode Y_XLaw_kept.2.1 4 = .ok (.invokevirtual 55, 3) := by decide +kernel
theorem d_XLaw_kept_7 : decode Y_XLaw_kept.2.1 7 = .ok (.i2l, 1) := by decide +kernel
theorem d_XLaw_kept_8 : decode Y_XLaw_kept.2.1 8 = .ok (.lastore, 1) := by decide +kernel
theorem d_XLaw_kept_9 : decode Y_XLaw_kept.2.1 9 = .ok (.goto (6), 3) := by decide +kernel
theorem d_XLaw_kept_13 : decode Y_XLaw_kept.2.1 13 = .ok (.iconst 1, 1) := by decide +kernel
theorem d_XLaw_kept_14 : decode Y_XLaw_kept.2.1 14 = .ok (.ireturn, 1) := by decide +kernel
theorem d_XLaw_kept_15 : decode Y_XLaw_kept.2.1 15 = .ok (.iconst 0, 1) := by decide +kernel
theorem d_XLaw_kept_16 : decode Y_XLaw_kept.2.1 16 = .ok (.ireturn, 1) := by decide +kernel
def F_XLaw_kept (n : Nat) (l0 : Nat) (l1 : Int32) (l2 : Nat) (M : PM) : qO :=
  kO 1 M l0 (
  xI (F_X_kept n l0 l1 M) [("java/lang/IndexOutOfBoundsException", 1)] (fun v2 M1 =>
  wL M1 l2 (0 : Int32) v2.toInt64 (fun M3 =>
  some (.inl (some (.int (0 : Int32))), M3))))
set_option maxHeartbeats 4000000 in
set_option maxRecDepth 100000 in
theorem E_XLaw_kept {g : qG} {X : qX} {Z : qZ} (hn : 15 ≤ zn Z) (hl : 385 ≤ zl Z) {n : Nat} {l0 : Nat} {l1 : Int32} {l2 : Nat} {M : PM} (h : F_XLaw_kept n l0 l1 l2 M = some (zr Z, zf Z)) : EW Y_XLaw_kept g X Z 0 [(0, .ref l0), (1, .int l1), (2, .ref l2)] [] M := by
  unfold F_XLaw_kept at h
  refine ew_aload_n 2 d_XLaw_kept_0 rfl rfl ?_
  refine ew_iconst (0) d_XLaw_kept_1 (by decide) ?_
  refine ew_aload_n 0 d_XLaw_kept_2 rfl rfl ?_
  refine ew_iload_n 1 d_XLaw_kept_3 rfl rfl ?_
  obtain ⟨kM1, h⟩ := kO_inv h
  rcases Or.symm (xI_inv h) with ⟨EM1, wM1, NM1, hM1, hwM1, h⟩ | ⟨v2, M1, hM1, h⟩
  · obtain ⟨hz, hm⟩ := Prod.mk.inj h
    rcases List.mem_cons.mp hwM1 with q9 | hwM1
    · obtain ⟨rfl, rfl⟩ := Prod.mk.inj q9
      exact ew_callVx 1 [.int l1] d_XLaw_kept_4 cv_XLaw_55 lk_XLaw_55 (T_X_kept hM1) kM1 (Nat.le_trans (Nat.le_of_ble_eq_true rfl) hn) (Nat.le_trans (Nat.le_of_ble_eq_true rfl) hl) (Nat.le_of_ble_eq_true rfl) rfl (ew_caught ca_XLaw_kept_0 (ew_iconst (1) d_XLaw_kept_13 (by decide) (ew_ireturn d_XLaw_kept_14 rfl hz hm)))
    cases hwM1
  refine ew_callV 1 [.int l1] d_XLaw_kept_4 cv_XLaw_55 (T_X_kept hM1) kM1 (Nat.le_trans (Nat.le_of_ble_eq_true rfl) hn) (Nat.le_trans (Nat.le_of_ble_eq_true rfl) hl) (Nat.le_of_ble_eq_true rfl) rfl rfl ?_
  refine ew_i2l d_XLaw_kept_7 ?_
  obtain ⟨M3, aM3, bM3, cM3, eM3, h⟩ := wL_inv h
  refine ew_wL d_XLaw_kept_8 aM3 bM3 cM3 eM3 ?_
  refine ew_goto 15 d_XLaw_kept_9 (by decide) ?_
  refine ew_iconst (0) d_XLaw_kept_15 (by decide) ?_
  obtain ⟨hz, hm⟩ := Prod.mk.inj (Option.some.inj h)
  exact ew_ireturn d_XLaw_kept_16 rfl hz.symm hm.symm
theorem T_XLaw_kept {n : Nat} {l0 : Nat} {l1 : Int32} {l2 : Nat} {M Mf : PM} {res : qRs} (h : F_XLaw_kept n l0 l1 l2 M = some (res, Mf)) : CTw Y_XLaw_kept 15 385 [.ref l0, .int l1, .ref l2] M res Mf :=
  CTw_of (by decide) (Nat.le_of_ble_eq_true rfl) (fun g X ad0 => E_XLaw_kept (g := g) (X := X) (Z := (ad0, M, res, Mf, 15, 385)) (Nat.le_refl _) (Nat.le_refl _) h)
theorem d_XLaw_witness_0 : decode Y_XLaw_witness.2.1 0 = .ok (.aload_n 2, 1) := by decide +kernel
theorem d_XLaw_witness_1 : decode Y_XLaw_witness.2.1 1 = .ok (.iconst 0, 1) := by decide +kernel
theorem d_XLaw_witness_2 : decode Y_XLaw_witness.2.1 2 = .ok (.aload_n 0, 1) := by decide +kernel
theorem d_XLaw_witness_3 : decode Y_XLaw_witness.2.1 3 = .ok (.iload_n 1, 1) := by decide +kernel
theorem d_XLaw_witness_4 : decode Y_XLaw_witness.2.1 4 = .ok (.invokevirtual 58, 3) := by decide +kernel
theorem d_XLaw_witness_7 : decode Y_XLaw_witness.2.1 7 = .ok (.i2l, 1) := by decide +kernel
theorem d_XLaw_witness_8 : decode Y_XLaw_witness.2.1 8 = .ok (.lastore, 1) := by decide +kernel
theorem d_XLaw_witness_9 : decode Y_XLaw_witness.2.1 9 = .ok (.goto (9), 3) := by decide +kernel
theorem d_XLaw_witness_13 : decode Y_XLaw_witness.2.1 13 = .ok (.iconst 1, 1) := by decide +kernel
theorem d_XLaw_witness_14 : decode Y_XLaw_witness.2.1 14 = .ok (.ireturn, 1) := by decide +kernel
theorem d_XLaw_witness_16 : decode Y_XLaw_witness.2.1 16 = .ok (.iconst 2, 1) := by decide +kernel
theorem d_XLaw_witness_17 : decode Y_XLaw_witness.2.1 17 = .ok (.ireturn, 1) := by decide +kernel
theorem d_XLaw_witness_18 : decode Y_XLaw_witness.2.1 18 = .ok (.iconst 0, 1) := by decide +kernel
theorem d_XLaw_witness_19 : decode Y_XLaw_witness.2.1 19 = .ok (.ireturn, 1) := by decide +kernel
def F_XLaw_witness (n : Nat) (l0 : Nat) (l1 : Int32) (l2 : Nat) (M : PM) : qO :=
  kO 1 M l0 (
  xI (F_X_witness n l0 l1 M) [("java/lang/IllegalStateException", 1), ("java/lang/IndexOutOfBoundsException", 2)] (fun v2 M1 =>
  wL M1 l2 (0 : Int32) v2.toInt64 (fun M3 =>
  some (.inl (some (.int (0 : Int32))), M3))))
set_option maxHeartbeats 4000000 in
set_option maxRecDepth 100000 in
theorem E_XLaw_witness {g : qG} {X : qX} {Z : qZ} (hn : 8 ≤ zn Z) (hl : 123 ≤ zl Z) {n : Nat} {l0 : Nat} {l1 : Int32} {l2 : Nat} {M : PM} (h : F_XLaw_witness n l0 l1 l2 M = some (zr Z, zf Z)) : EW Y_XLaw_witness g X Z 0 [(0, .ref l0), (1, .int l1), (2, .ref l2)] [] M := by
  unfold F_XLaw_witness at h
  refine ew_aload_n 2 d_XLaw_witness_0 rfl rfl ?_
  refine ew_iconst (0) d_XLaw_witness_1 (by decide) ?_
  refine ew_aload_n 0 d_XLaw_witness_2 rfl rfl ?_
  refine ew_iload_n 1 d_XLaw_witness_3 rfl rfl ?_
  obtain ⟨kM1, h⟩ := kO_inv h
  rcases Or.symm (xI_inv h) with ⟨EM1, wM1, NM1, hM1, hwM1, h⟩ | ⟨v2, M1, hM1, h⟩
  · obtain ⟨hz, hm⟩ := Prod.mk.inj h
    rcases List.mem_cons.mp hwM1 with q9 | hwM1
    · obtain ⟨rfl, rfl⟩ := Prod.mk.inj q9
      exact ew_callVx 1 [.int l1] d_XLaw_witness_4 cv_XLaw_58 lk_XLaw_58 (T_X_witness hM1) kM1 (Nat.le_trans (Nat.le_of_ble_eq_true rfl) hn) (Nat.le_trans (Nat.le_of_ble_eq_true rfl) hl) (Nat.le_of_ble_eq_true rfl) rfl (ew_caught ca_XLaw_witness_0 (ew_iconst (1) d_XLaw_witness_13 (by decide) (ew_ireturn d_XLaw_witness_14 rfl hz hm)))
    rcases List.mem_cons.mp hwM1 with q9 | hwM1
    · obtain ⟨rfl, rfl⟩ := Prod.mk.inj q9
      exact ew_callVx 1 [.int l1] d_XLaw_witness_4 cv_XLaw_58 lk_XLaw_58 (T_X_witness hM1) kM1 (Nat.le_trans (Nat.le_of_ble_eq_true rfl) hn) (Nat.le_trans (Nat.le_of_ble_eq_true rfl) hl) (Nat.le_of_ble_eq_true rfl) rfl (ew_caught ca_XLaw_witness_1 (ew_iconst (2) d_XLaw_witness_16 (by decide) (ew_ireturn d_XLaw_witness_17 rfl hz hm)))
    cases hwM1
  refine ew_callV 1 [.int l1] d_XLaw_witness_4 cv_XLaw_58 (T_X_witness hM1) kM1 (Nat.le_trans (Nat.le_of_ble_eq_true rfl) hn) (Nat.le_trans (Nat.le_of_ble_eq_true rfl) hl) (Nat.le_of_ble_eq_true rfl) rfl rfl ?_
  refine ew_i2l d_XLaw_witness_7 ?_
  obtain ⟨M3, aM3, bM3, cM3, eM3, h⟩ := wL_inv h
  refine ew_wL d_XLaw_witness_8 aM3 bM3 cM3 eM3 ?_
  refine ew_goto 18 d_XLaw_witness_9 (by decide) ?_
  refine ew_iconst (0) d_XLaw_witness_18 (by decide) ?_
  obtain ⟨hz, hm⟩ := Prod.mk.inj (Option.some.inj h)
  exact ew_ireturn d_XLaw_witness_19 rfl hz.symm hm.symm
theorem T_XLaw_witness {n : Nat} {l0 : Nat} {l1 : Int32} {l2 : Nat} {M Mf : PM} {res : qRs} (h : F_XLaw_witness n l0 l1 l2 M = some (res, Mf)) : CTw Y_XLaw_witness 8 123 [.ref l0, .int l1, .ref l2] M res Mf :=
  CTw_of (by decide) (Nat.le_of_ble_eq_true rfl) (fun g X ad0 => E_XLaw_witness (g := g) (X := X) (Z := (ad0, M, res, Mf, 8, 123)) (Nat.le_refl _) (Nat.le_refl _) h)
theorem d_XLaw_differs_0 : decode Y_XLaw_differs.2.1 0 = .ok (.aload_n 1, 1) := by decide +kernel
theorem d_XLaw_differs_1 : decode Y_XLaw_differs.2.1 1 = .ok (.iconst 0, 1) := by decide +kernel
theorem d_XLaw_differs_2 : decode Y_XLaw_differs.2.1 2 = .ok (.aload_n 0, 1) := by decide +kernel
theorem d_XLaw_differs_3 : decode Y_XLaw_differs.2.1 3 = .ok (.invokevirtual 61, 3) := by decide +kernel
theorem d_XLaw_differs_6 : decode Y_XLaw_differs.2.1 6 = .ok (.i2l, 1) := by decide +kernel
theorem d_XLaw_differs_7 : decode Y_XLaw_differs.2.1 7 = .ok (.lastore, 1) := by decide +kernel
theorem d_XLaw_differs_8 : decode Y_XLaw_differs.2.1 8 = .ok (.goto (6), 3) := by decide +kernel
theorem d_XLaw_differs_12 : decode Y_XLaw_differs.2.1 12 = .ok (.iconst 1, 1) := by decide +kernel
theorem d_XLaw_differs_13 : decode Y_XLaw_differs.2.1 13 = .ok (.ireturn, 1) := by decide +kernel
theorem d_XLaw_differs_14 : decode Y_XLaw_differs.2.1 14 = .ok (.iconst 0, 1) := by decide +kernel
theorem d_XLaw_differs_15 : decode Y_XLaw_differs.2.1 15 = .ok (.ireturn, 1) := by decide +kernel
def F_XLaw_differs (n : Nat) (l0 : Nat) (l1 : Nat) (M : PM) : qO :=
  kO 1 M l0 (
  xI (F_X_differs n l0 M) [("java/lang/IllegalStateException", 1)] (fun v2 M1 =>
  wL M1 l1 (0 : Int32) v2.toInt64 (fun M3 =>
  some (.inl (some (.int (0 : Int32))), M3))))
set_option maxHeartbeats 4000000 in
set_option maxRecDepth 100000 in
theorem E_XLaw_differs {g : qG} {X : qX} {Z : qZ} (hn : 8 ≤ zn Z) (hl : 122 ≤ zl Z) {n : Nat} {l0 : Nat} {l1 : Nat} {M : PM} (h : F_XLaw_differs n l0 l1 M = some (zr Z, zf Z)) : EW Y_XLaw_differs g X Z 0 [(0, .ref l0), (1, .ref l1)] [] M := by
  unfold F_XLaw_differs at h
  refine ew_aload_n 1 d_XLaw_differs_0 rfl rfl ?_
  refine ew_iconst (0) d_XLaw_differs_1 (by decide) ?_
  refine ew_aload_n 0 d_XLaw_differs_2 rfl rfl ?_
  obtain ⟨kM1, h⟩ := kO_inv h
  rcases Or.symm (xI_inv h) with ⟨EM1, wM1, NM1, hM1, hwM1, h⟩ | ⟨v2, M1, hM1, h⟩
  · obtain ⟨hz, hm⟩ := Prod.mk.inj h
    rcases List.mem_cons.mp hwM1 with q9 | hwM1
    · obtain ⟨rfl, rfl⟩ := Prod.mk.inj q9
      exact ew_callVx 1 [] d_XLaw_differs_3 cv_XLaw_61 lk_XLaw_61 (T_X_differs hM1) kM1 (Nat.le_trans (Nat.le_of_ble_eq_true rfl) hn) (Nat.le_trans (Nat.le_of_ble_eq_true rfl) hl) (Nat.le_of_ble_eq_true rfl) rfl (ew_caught ca_XLaw_differs_0 (ew_iconst (1) d_XLaw_differs_12 (by decide) (ew_ireturn d_XLaw_differs_13 rfl hz hm)))
    cases hwM1
  refine ew_callV 1 [] d_XLaw_differs_3 cv_XLaw_61 (T_X_differs hM1) kM1 (Nat.le_trans (Nat.le_of_ble_eq_true rfl) hn) (Nat.le_trans (Nat.le_of_ble_eq_true rfl) hl) (Nat.le_of_ble_eq_true rfl) rfl rfl ?_
  refine ew_i2l d_XLaw_differs_6 ?_
  obtain ⟨M3, aM3, bM3, cM3, eM3, h⟩ := wL_inv h
  refine ew_wL d_XLaw_differs_7 aM3 bM3 cM3 eM3 ?_
  refine ew_goto 14 d_XLaw_differs_8 (by decide) ?_
  refine ew_iconst (0) d_XLaw_differs_14 (by decide) ?_
  obtain ⟨hz, hm⟩ := Prod.mk.inj (Option.some.inj h)
  exact ew_ireturn d_XLaw_differs_15 rfl hz.symm hm.symm
theorem T_XLaw_differs {n : Nat} {l0 : Nat} {l1 : Nat} {M Mf : PM} {res : qRs} (h : F_XLaw_differs n l0 l1 M = some (res, Mf)) : CTw Y_XLaw_differs 8 122 [.ref l0, .ref l1] M res Mf :=
  CTw_of (by decide) (Nat.le_of_ble_eq_true rfl) (fun g X ad0 => E_XLaw_differs (g := g) (X := X) (Z := (ad0, M, res, Mf, 8, 122)) (Nat.le_refl _) (Nat.le_refl _) h)
theorem d_XLaw_node_0 : decode Y_XLaw_node.2.1 0 = .ok (.aload_n 3, 1) := by decide +kernel
theorem d_XLaw_node_1 : decode Y_XLaw_node.2.1 1 = .ok (.iconst 0, 1) := by decide +kernel
theorem d_XLaw_node_2 : decode Y_XLaw_node.2.1 2 = .ok (.aload_n 0, 1) := by decide +kernel
theorem d_XLaw_node_3 : decode Y_XLaw_node.2.1 3 = .ok (.iload_n 1, 1) := by decide +kernel
theorem d_XLaw_node_4 : decode Y_XLaw_node.2.1 4 = .ok (.iload_n 2, 1) := by decide +kernel
theorem d_XLaw_node_5 : decode Y_XLaw_node.2.1 5 = .ok (.invokevirtual 64, 3) := by decide +kernel
theorem d_XLaw_node_8 : decode Y_XLaw_node.2.1 8 = .ok (.i2l, 1) := by decide +kernel
theorem d_XLaw_node_9 : decode Y_XLaw_node.2.1 9 = .ok (.lastore, 1) := by decide +kernel
theorem d_XLaw_node_10 : decode Y_XLaw_node.2.1 10 = .ok (.goto (7), 3) := by decide +kernel
theorem d_XLaw_node_15 : decode Y_XLaw_node.2.1 15 = .ok (.iconst 1, 1) := by decide +kernel
theorem d_XLaw_node_16 : decode Y_XLaw_node.2.1 16 = .ok (.ireturn, 1) := by decide +kernel
theorem d_XLaw_node_17 : decode Y_XLaw_node.2.1 17 = .ok (.iconst 0, 1) := by decide +kernel
theorem d_XLaw_node_18 : decode Y_XLaw_node.2.1 18 = .ok (.ireturn, 1) := by decide +kernel
def F_XLaw_node (n : Nat) (l0 : Nat) (l1 : Int32) (l2 : Int32) (l3 : Nat) (M : PM) : qO :=
  kO 1 M l0 (
  xI (F_X_node n l0 l1 l2 M) [("java/lang/IndexOutOfBoundsException", 1)] (fun v2 M1 =>
  wL M1 l3 (0 : Int32) v2.toInt64 (fun M3 =>
  some (.inl (some (.int (0 : Int32))), M3))))
set_option maxHeartbeats 4000000 in
set_option maxRecDepth 100000 in
theorem E_XLaw_node {g : qG} {X : qX} {Z : qZ} (hn : 8 ≤ zn Z) (hl : 125 ≤ zl Z) {n : Nat} {l0 : Nat} {l1 : Int32} {l2 : Int32} {l3 : Nat} {M : PM} (h : F_XLaw_node n l0 l1 l2 l3 M = some (zr Z, zf Z)) : EW Y_XLaw_node g X Z 0 [(0, .ref l0), (1, .int l1), (2, .int l2), (3, .ref l3)] [] M := by
  unfold F_XLaw_node at h
  refine ew_aload_n 3 d_XLaw_node_0 rfl rfl ?_
  refine ew_iconst (0) d_XLaw_node_1 (by decide) ?_
  refine ew_aload_n 0 d_XLaw_node_2 rfl rfl ?_
  refine ew_iload_n 1 d_XLaw_node_3 rfl rfl ?_
  refine ew_iload_n 2 d_XLaw_node_4 rfl rfl ?_
  obtain ⟨kM1, h⟩ := kO_inv h
  rcases Or.symm (xI_inv h) with ⟨EM1, wM1, NM1, hM1, hwM1, h⟩ | ⟨v2, M1, hM1, h⟩
  · obtain ⟨hz, hm⟩ := Prod.mk.inj h
    rcases List.mem_cons.mp hwM1 with q9 | hwM1
    · obtain ⟨rfl, rfl⟩ := Prod.mk.inj q9
      exact ew_callVx 1 [.int l1, .int l2] d_XLaw_node_5 cv_XLaw_64 lk_XLaw_64 (T_X_node hM1) kM1 (Nat.le_trans (Nat.le_of_ble_eq_true rfl) hn) (Nat.le_trans (Nat.le_of_ble_eq_true rfl) hl) (Nat.le_of_ble_eq_true rfl) rfl (ew_caught ca_XLaw_node_0 (ew_iconst (1) d_XLaw_node_15 (by decide) (ew_ireturn d_XLaw_node_16 rfl hz hm)))
    cases hwM1
  refine ew_callV 1 [.int l1, .int l2] d_XLaw_node_5 cv_XLaw_64 (T_X_node hM1) kM1 (Nat.le_trans (Nat.le_of_ble_eq_true rfl) hn) (Nat.le_trans (Nat.le_of_ble_eq_true rfl) hl) (Nat.le_of_ble_eq_true rfl) rfl rfl ?_
  refine ew_i2l d_XLaw_node_8 ?_
  obtain ⟨M3, aM3, bM3, cM3, eM3, h⟩ := wL_inv h
  refine ew_wL d_XLaw_node_9 aM3 bM3 cM3 eM3 ?_
  refine ew_goto 17 d_XLaw_node_10 (by decide) ?_
  refine ew_iconst (0) d_XLaw_node_17 (by decide) ?_
  obtain ⟨hz, hm⟩ := Prod.mk.inj (Option.some.inj h)
  exact ew_ireturn d_XLaw_node_18 rfl hz.symm hm.symm
theorem T_XLaw_node {n : Nat} {l0 : Nat} {l1 : Int32} {l2 : Int32} {l3 : Nat} {M Mf : PM} {res : qRs} (h : F_XLaw_node n l0 l1 l2 l3 M = some (res, Mf)) : CTw Y_XLaw_node 8 125 [.ref l0, .int l1, .int l2, .ref l3] M res Mf :=
  CTw_of (by decide) (Nat.le_of_ble_eq_true rfl) (fun g X ad0 => E_XLaw_node (g := g) (X := X) (Z := (ad0, M, res, Mf, 8, 125)) (Nat.le_refl _) (Nat.le_refl _) h)
