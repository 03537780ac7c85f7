theorem d_X_run_0 : decode Y_X_run.2.1 0 = .ok (.iload_n 1, 1) := by decide +kernel
theorem d_X_run_1 : decode Y_X_run.2.1 1 = .ok (.ifCond .lt (9), 3) := by decide +kernel
theorem d_X_run_4 : decode Y_X_run.2.1 4 = .ok (.iload_n 1, 1) := by decide +kernel
theorem d_X_run_5 : decode Y_X_run.2.1 5 = .ok (.bipush (8), 2) := by decide +kernel
theorem d_X_run_7 : decode Y_X_run.2.1 7 = .ok (.if_icmp .le (13), 3) := by decide +kernel
theorem d_X_run_20 : decode Y_X_run.2.1 20 = .ok (.aload_n 0, 1) := by decide +kernel
theorem d_X_run_21 : decode Y_X_run.2.1 21 = .ok (.getfield 26, 3) := by decide +kernel
theorem d_X_run_24 : decode Y_X_run.2.1 24 = .ok (.aload_n 0, 1) := by decide +kernel
theorem d_X_run_25 : decode Y_X_run.2.1 25 = .ok (.getfield 12, 3) := by decide +kernel
theorem d_X_run_28 : decode Y_X_run.2.1 28 = .ok (.iload_n 1, 1) := by decide +kernel
theorem d_X_run_29 : decode Y_X_run.2.1 29 = .ok (.aload_n 0, 1) := by decide +kernel
theorem d_X_run_30 : decode Y_X_run.2.1 30 = .ok (.getfield 19, 3) := by decide +kernel
theorem d_X_run_33 : decode Y_X_run.2.1 33 = .ok (.invokevirtual 115, 3) := by decide +kernel
theorem d_X_run_36 : decode Y_X_run.2.1 36 = .ok (.aload_n 0, 1) := by decide +kernel
theorem d_X_run_37 : decode Y_X_run.2.1 37 = .ok (.getfield 26, 3) := by decide +kernel
theorem d_X_run_40 : decode Y_X_run.2.1 40 = .ok (.aload_n 0, 1) := by decide +kernel
theorem d_X_run_41 : decode Y_X_run.2.1 41 = .ok (.getfield 19, 3) := by decide +kernel
theorem d_X_run_44 : decode Y_X_run.2.1 44 = .ok (.invokevirtual 119, 3) := by decide +kernel
theorem d_X_run_47 : decode Y_X_run.2.1 47 = .ok (.aload_n 0, 1) := by decide +kernel
theorem d_X_run_48 : decode Y_X_run.2.1 48 = .ok (.getfield 19, 3) := by decide +kernel
theorem d_X_run_51 : decode Y_X_run.2.1 51 = .ok (.getfield 123, 3) := by decide +kernel
theorem d_X_run_54 : decode Y_X_run.2.1 54 = .ok (.ireturn, 1) := by decide +kernel
def F_X_run_10 (n : Nat) (M : PM) : qO :=
  some (.inr "java/lang/IllegalArgumentException", nX M)
set_option maxHeartbeats 4000000 in
set_option maxRecDepth 100000 in
theorem E_X_run_10 {g : qG} {X : qX} {Z : qZ} (hn : 14 ≤ zn Z) (hl : 364 ≤ zl Z) {n : Nat} {M : PM} (h : F_X_run_10 n M = some (zr Z, zf Z)) : EW Y_X_run g X Z 10 [] [] M := by
  unfold F_X_run_10 at h
  obtain ⟨hz, hm⟩ := Prod.mk.inj (Option.some.inj h)
  exact ew_throw (qHd_ne (by decide)) th_X_run_10 hz.symm hm.symm (Nat.le_trans (Nat.le_of_ble_eq_true rfl) hn) (Nat.le_trans (Nat.le_of_ble_eq_true rfl) hl)
def F_X_run (n : Nat) (l0 : Nat) (l1 : Int32) (M : PM) : qO :=
  if l1 < (0 : Int32) then
    F_X_run_10 n M
  else
    if l1 ≤ (8 : Int32) then
      gR 1 M l0 2 (fun v3 =>
      gR 1 M l0 0 (fun v4 =>
      gR 1 M l0 1 (fun v5 =>
      kO 6 M v3 (
      cV (F_XProver_askEquation n v3 v4 l1 v5 M) (fun M6 =>
      gR 1 M6 l0 2 (fun v7 =>
      gR 1 M6 l0 1 (fun v8 =>
      kO 6 M6 v7 (
      cV (F_XProver_decide n v7 v8 M6) (fun M9 =>
      gR 1 M9 l0 1 (fun v10 =>
      gI 4 M9 v10 1 (fun v11 =>
      some (.inl (some (.int v11)), M9))))))))))))
    else
      F_X_run_10 n M
set_option maxHeartbeats 4000000 in
set_option maxRecDepth 100000 in
theorem E_X_run {g : qG} {X : qX} {Z : qZ} (hn : 14 ≤ zn Z) (hl : 364 ≤ zl Z) {n : Nat} {l0 : Nat} {l1 : Int32} {M : PM} (h : F_X_run n l0 l1 M = some (zr Z, zf Z)) : EW Y_X_run g X Z 0 [(0, .ref l0), (1, .int l1)] [] M := by
  unfold F_X_run at h
  refine ew_iload_n 1 d_X_run_0 rfl rfl ?_
  refine ew_if_lt 10 d_X_run_1 (by decide) (fun c1 => ?_) (fun c1 => ?_)
  · rw [if_pos c1] at h
    exact ew_pick (L' := []) [] rfl (E_X_run_10 hn hl h)
  · rw [if_neg c1] at h
    refine ew_iload_n 1 d_X_run_4 rfl rfl ?_
    refine ew_bipush (8) d_X_run_5 (by decide +kernel) ?_
    refine ew_icmp_le 20 d_X_run_7 (by decide) (fun c2 => ?_) (fun c2 => ?_)
    · rw [if_pos c2] at h
      refine ew_aload_n 0 d_X_run_20 rfl rfl ?_
      obtain ⟨v3, av3, bv3, h⟩ := gR_inv h
      refine ew_gR 1 2 d_X_run_21 fl_X_26 av3 bv3 ?_
      refine ew_aload_n 0 d_X_run_24 rfl rfl ?_
      obtain ⟨v4, av4, bv4, h⟩ := gR_inv h
      refine ew_gR 1 0 d_X_run_25 fl_X_12 av4 bv4 ?_
      refine ew_iload_n 1 d_X_run_28 rfl rfl ?_
      refine ew_aload_n 0 d_X_run_29 rfl rfl ?_
      obtain ⟨v5, av5, bv5, h⟩ := gR_inv h
      refine ew_gR 1 1 d_X_run_30 fl_X_19 av5 bv5 ?_
      obtain ⟨kM6, h⟩ := kO_inv h
      obtain ⟨M6, hM6, h⟩ := cV_inv h
      refine ew_callV 6 [.ref v4, .int l1, .ref v5] d_X_run_33 cv_X_115 (T_XProver_askEquation hM6) kM6 (Nat.le_trans (Nat.le_of_ble_eq_true rfl) hn) (Nat.le_trans (Nat.le_of_ble_eq_true rfl) hl) (Nat.le_of_ble_eq_true rfl) rfl rfl ?_
      refine ew_aload_n 0 d_X_run_36 rfl rfl ?_
      obtain ⟨v7, av7, bv7, h⟩ := gR_inv h
      refine ew_gR 1 2 d_X_run_37 fl_X_26 av7 bv7 ?_
      refine ew_aload_n 0 d_X_run_40 rfl rfl ?_
      obtain ⟨v8, av8, bv8, h⟩ := gR_inv h
      refine ew_gR 1 1 d_X_run_41 fl_X_19 av8 bv8 ?_
      obtain ⟨kM9, h⟩ := kO_inv h
      obtain ⟨M9, hM9, h⟩ := cV_inv h
      refine ew_callV 6 [.ref v8] d_X_run_44 cv_X_119 (T_XProver_decide hM9) kM9 (Nat.le_trans (Nat.le_of_ble_eq_true rfl) hn) (Nat.le_trans (Nat.le_of_ble_eq_true rfl) hl) (Nat.le_of_ble_eq_true rfl) rfl rfl ?_
      refine ew_aload_n 0 d_X_run_47 rfl rfl ?_
      obtain ⟨v10, av10, bv10, h⟩ := gR_inv h
      refine ew_gR 1 1 d_X_run_48 fl_X_19 av10 bv10 ?_
      obtain ⟨v11, av11, bv11, h⟩ := gI_inv h
      refine ew_gI 4 1 d_X_run_51 fl_X_123 av11 bv11 ?_
      obtain ⟨hz, hm⟩ := Prod.mk.inj (Option.some.inj h)
      exact ew_ireturn d_X_run_54 rfl hz.symm hm.symm
    · rw [if_neg c2] at h
      exact ew_pick (L' := []) [] rfl (E_X_run_10 hn hl h)
theorem T_X_run {n : Nat} {l0 : Nat} {l1 : Int32} {M Mf : PM} {res : qRs} (h : F_X_run n l0 l1 M = some (res, Mf)) : CT Y_X_run 14 364 [.ref l0, .int l1] M res Mf :=
  CT_of (by decide) (Nat.le_of_ble_eq_true rfl) (qHd_ne (by decide)) (fun g X ad0 => E_X_run (g := g) (X := X) (Z := (ad0, M, res, Mf, 14, 364)) (Nat.le_refl _) (Nat.le_refl _) h)
theorem d_X_kept_0 : decode Y_X_kept.2.1 0 = .ok (.iload_n 1, 1) := by decide +kernel
theorem d_X_kept_1 : decode Y_X_kept.2.1 1 = .ok (.ifCond .lt (14), 3) := by decide +kernel
theorem d_X_kept_4 : decode Y_X_kept.2.1 4 = .ok (.iload_n 1, 1) := by decide +kernel
theorem d_X_kept_5 : decode Y_X_kept.2.1 5 = .ok (.aload_n 0, 1) := by decide +kernel
theorem d_X_kept_6 : decode Y_X_kept.2.1 6 = .ok (.getfield 12, 3) := by decide +kernel
theorem d_X_kept_9 : decode Y_X_kept.2.1 9 = .ok (.getfield 101, 3) := by decide +kernel
theorem d_X_kept_12 : decode Y_X_kept.2.1 12 = .ok (.if_icmp .lt (13), 3) := by decide +kernel
theorem d_X_kept_25 : decode Y_X_kept.2.1 25 = .ok (.aload_n 0, 1) := by decide +kernel
theorem d_X_kept_26 : decode Y_X_kept.2.1 26 = .ok (.getfield 26, 3) := by decide +kernel
theorem d_X_kept_29 : decode Y_X_kept.2.1 29 = .ok (.aload_n 0, 1) := by decide +kernel
theorem d_X_kept_30 : decode Y_X_kept.2.1 30 = .ok (.getfield 12, 3) := by decide +kernel
theorem d_X_kept_33 : decode Y_X_kept.2.1 33 = .ok (.iload_n 1, 1) := by decide +kernel
theorem d_X_kept_34 : decode Y_X_kept.2.1 34 = .ok (.aload_n 0, 1) := by decide +kernel
theorem d_X_kept_35 : decode Y_X_kept.2.1 35 = .ok (.getfield 19, 3) := by decide +kernel
theorem d_X_kept_38 : decode Y_X_kept.2.1 38 = .ok (.invokevirtual 131, 3) := by decide +kernel
theorem d_X_kept_41 : decode Y_X_kept.2.1 41 = .ok (.aload_n 0, 1) := by decide +kernel
theorem d_X_kept_42 : decode Y_X_kept.2.1 42 = .ok (.getfield 26, 3) := by decide +kernel
theorem d_X_kept_45 : decode Y_X_kept.2.1 45 = .ok (.aload_n 0, 1) := by decide +kernel
theorem d_X_kept_46 : decode Y_X_kept.2.1 46 = .ok (.getfield 19, 3) := by decide +kernel
theorem d_X_kept_49 : decode Y_X_kept.2.1 49 = .ok (.invokevirtual 119, 3) := by decide +kernel
theorem d_X_kept_52 : decode Y_X_kept.2.1 52 = .ok (.aload_n 0, 1) := by decide +kernel
theorem d_X_kept_53 : decode Y_X_kept.2.1 53 = .ok (.getfield 19, 3) := by decide +kernel
theorem d_X_kept_56 : decode Y_X_kept.2.1 56 = .ok (.getfield 123, 3) := by decide +kernel
theorem d_X_kept_59 : decode Y_X_kept.2.1 59 = .ok (.ireturn, 1) := by decide +kernel
def F_X_kept_15 (n : Nat) (M : PM) : qO :=
  some (.inr "java/lang/IndexOutOfBoundsException", nX M)
set_option maxHeartbeats 4000000 in
set_option maxRecDepth 100000 in
theorem E_X_kept_15 {g : qG} {X : qX} {Z : qZ} (hn : 14 ≤ zn Z) (hl : 364 ≤ zl Z) {n : Nat} {M : PM} (h : F_X_kept_15 n M = some (zr Z, zf Z)) : EW Y_X_kept g X Z 15 [] [] M := by
  unfold F_X_kept_15 at h
  obtain ⟨hz, hm⟩ := Prod.mk.inj (Option.some.inj h)
  exact ew_throw (qHd_ne (by decide)) th_X_kept_15 hz.symm hm.symm (Nat.le_trans (Nat.le_of_ble_eq_true rfl) hn) (Nat.le_trans (Nat.le_of_ble_eq_true rfl) hl)
def F_X_kept (n : Nat) (l0 : Nat) (l1 : Int32) (M : PM) : qO :=
  if l1 < (0 : Int32) then
    F_X_kept_15 n M
  else
    gR 1 M l0 0 (fun v2 =>
    gI 2 M v2 8 (fun v3 =>
    if l1 < v3 then
      gR 1 M l0 2 (fun v5 =>
      gR 1 M l0 0 (fun v6 =>
      gR 1 M l0 1 (fun v7 =>
      kO 6 M v5 (
      cV (F_XProver_askKept n v5 v6 l1 v7 M) (fun M8 =>
      gR 1 M8 l0 2 (fun v9 =>
      gR 1 M8 l0 1 (fun v10 =>
      kO 6 M8 v9 (
      cV (F_XProver_decide n v9 v10 M8) (fun M11 =>
      gR 1 M11 l0 1 (fun v12 =>
      gI 4 M11 v12 1 (fun v13 =>
      some (.inl (some (.int v13)), M11))))))))))))
    else
      F_X_kept_15 n M))
set_option maxHeartbeats 4000000 in
set_option maxRecDepth 100000 in
theorem E_X_kept {g : qG} {X : qX} {Z : qZ} (hn : 14 ≤ zn Z) (hl : 364 ≤ zl Z) {n : Nat} {l0 : Nat} {l1 : Int32} {M : PM} (h : F_X_kept n l0 l1 M = some (zr Z, zf Z)) : EW Y_X_kept g X Z 0 [(0, .ref l0), (1, .int l1)] [] M := by
  unfold F_X_kept at h
  refine ew_iload_n 1 d_X_kept_0 rfl rfl ?_
  refine ew_if_lt 15 d_X_kept_1 (by decide) (fun c1 => ?_) (fun c1 => ?_)
  · rw [if_pos c1] at h
    exact ew_pick (L' := []) [] rfl (E_X_kept_15 hn hl h)
  · rw [if_neg c1] at h
    refine ew_iload_n 1 d_X_kept_4 rfl rfl ?_
    refine ew_aload_n 0 d_X_kept_5 rfl rfl ?_
    obtain ⟨v2, av2, bv2, h⟩ := gR_inv h
    refine ew_gR 1 0 d_X_kept_6 fl_X_12 av2 bv2 ?_
    obtain ⟨v3, av3, bv3, h⟩ := gI_inv h
    refine ew_gI 2 8 d_X_kept_9 fl_X_101 av3 bv3 ?_
    refine ew_icmp_lt 25 d_X_kept_12 (by decide) (fun c4 => ?_) (fun c4 => ?_)
    · rw [if_pos c4] at h
      refine ew_aload_n 0 d_X_kept_25 rfl rfl ?_
      obtain ⟨v5, av5, bv5, h⟩ := gR_inv h
      refine ew_gR 1 2 d_X_kept_26 fl_X_26 av5 bv5 ?_
      refine ew_aload_n 0 d_X_kept_29 rfl rfl ?_
      obtain ⟨v6, av6, bv6, h⟩ := gR_inv h
      refine ew_gR 1 0 d_X_kept_30 fl_X_12 av6 bv6 ?_
      refine ew_iload_n 1 d_X_kept_33 rfl rfl ?_
      refine ew_aload_n 0 d_X_kept_34 rfl rfl ?_
      obtain ⟨v7, av7, bv7, h⟩ := gR_inv h
      refine ew_gR 1 1 d_X_kept_35 fl_X_19 av7 bv7 ?_
      obtain ⟨kM8, h⟩ := kO_inv h
      obtain ⟨M8, hM8, h⟩ := cV_inv h
      refine ew_callV 6 [.ref v6, .int l1, .ref v7] d_X_kept_38 cv_X_131 (T_XProver_askKept hM8) kM8 (Nat.le_trans (Nat.le_of_ble_eq_true rfl) hn) (Nat.le_trans (Nat.le_of_ble_eq_true rfl) hl) (Nat.le_of_ble_eq_true rfl) rfl rfl ?_
      refine ew_aload_n 0 d_X_kept_41 rfl rfl ?_
      obtain ⟨v9, av9, bv9, h⟩ := gR_inv h
      refine ew_gR 1 2 d_X_kept_42 fl_X_26 av9 bv9 ?_
      refine ew_aload_n 0 d_X_kept_45 rfl rfl ?_
      obtain ⟨v10, av10, bv10, h⟩ := gR_inv h
      refine ew_gR 1 1 d_X_kept_46 fl_X_19 av10 bv10 ?_
      obtain ⟨kM11, h⟩ := kO_inv h
      obtain ⟨M11, hM11, h⟩ := cV_inv h
      refine ew_callV 6 [.ref v10] d_X_kept_49 cv_X_119 (T_XProver_decide hM11) kM11 (Nat.le_trans (Nat.le_of_ble_eq_true rfl) hn) (Nat.le_trans (Nat.le_of_ble_eq_true rfl) hl) (Nat.le_of_ble_eq_true rfl) rfl rfl ?_
      refine ew_aload_n 0 d_X_kept_52 rfl rfl ?_
      obtain ⟨v12, av12, bv12, h⟩ := gR_inv h
      refine ew_gR 1 1 d_X_kept_53 fl_X_19 av12 bv12 ?_
      obtain ⟨v13, av13, bv13, h⟩ := gI_inv h
      refine ew_gI 4 1 d_X_kept_56 fl_X_123 av13 bv13 ?_
      obtain ⟨hz, hm⟩ := Prod.mk.inj (Option.some.inj h)
      exact ew_ireturn d_X_kept_59 rfl hz.symm hm.symm
    · rw [if_neg c4] at h
      exact ew_pick (L' := []) [] rfl (E_X_kept_15 hn hl h)
theorem T_X_kept {n : Nat} {l0 : Nat} {l1 : Int32} {M Mf : PM} {res : qRs} (h : F_X_kept n l0 l1 M = some (res, Mf)) : CT Y_X_kept 14 364 [.ref l0, .int l1] M res Mf :=
  CT_of (by decide) (Nat.le_of_ble_eq_true rfl) (qHd_ne (by decide)) (fun g X ad0 => E_X_kept (g := g) (X := X) (Z := (ad0, M, res, Mf, 14, 364)) (Nat.le_refl _) (Nat.le_refl _) h)
theorem d_X_requireFailure_0 : decode Y_X_requireFailure.2.1 0 = .ok (.aload_n 0, 1) := by decide +kernel
theorem d_X_requireFailure_1 : decode Y_X_requireFailure.2.1 1 = .ok (.getfield 19, 3) := by decide +kernel
theorem d_X_requireFailure_4 : decode Y_X_requireFailure.2.1 4 = .ok (.getfield 123, 3) := by decide +kernel
theorem d_X_requireFailure_7 : decode Y_X_requireFailure.2.1 7 = .ok (.ifCond .eq (13), 3) := by decide +kernel
theorem d_X_requireFailure_20 : decode Y_X_requireFailure.2.1 20 = .ok (.return_, 1) := by decide +kernel
def F_X_requireFailure (n : Nat) (l0 : Nat) (M : PM) : qO :=
  gR 1 M l0 1 (fun v1 =>
  gI 4 M v1 1 (fun v2 =>
  if v2 = (0 : Int32) then
    some (.inl none, M)
  else
    some (.inr "java/lang/IllegalStateException", nX M)))
set_option maxHeartbeats 4000000 in
set_option maxRecDepth 100000 in
theorem E_X_requireFailure {g : qG} {X : qX} {Z : qZ} (hn : 6 ≤ zn Z) (hl : 82 ≤ zl Z) {n : Nat} {l0 : Nat} {M : PM} (h : F_X_requireFailure n l0 M = some (zr Z, zf Z)) : EW Y_X_requireFailure g X Z 0 [(0, .ref l0)] [] M := by
  unfold F_X_requireFailure at h
  refine ew_aload_n 0 d_X_requireFailure_0 rfl rfl ?_
  obtain ⟨v1, av1, bv1, h⟩ := gR_inv h
  refine ew_gR 1 1 d_X_requireFailure_1 fl_X_19 av1 bv1 ?_
  obtain ⟨v2, av2, bv2, h⟩ := gI_inv h
  refine ew_gI 4 1 d_X_requireFailure_4 fl_X_123 av2 bv2 ?_
  refine ew_if_eq 20 d_X_requireFailure_7 (by decide) (fun c3 => ?_) (fun c3 => ?_)
  · rw [if_pos c3] at h
    obtain ⟨hz, hm⟩ := Prod.mk.inj (Option.some.inj h)
    exact ew_return d_X_requireFailure_20 rfl hz.symm hm.symm
  · rw [if_neg c3] at h
    obtain ⟨hz, hm⟩ := Prod.mk.inj (Option.some.inj h)
    exact ew_throw (qHd_ne (by decide)) th_X_requireFailure_10 hz.symm hm.symm (Nat.le_trans (Nat.le_of_ble_eq_true rfl) hn) (Nat.le_trans (Nat.le_of_ble_eq_true rfl) hl)
theorem T_X_requireFailure {n : Nat} {l0 : Nat} {M Mf : PM} {res : qRs} (h : F_X_requireFailure n l0 M = some (res, Mf)) : CT Y_X_requireFailure 6 82 [.ref l0] M res Mf :=
  CT_of (by decide) (Nat.le_of_ble_eq_true rfl) (qHd_ne (by decide)) (fun g X ad0 => E_X_requireFailure (g := g) (X := X) (Z := (ad0, M, res, Mf, 6, 82)) (Nat.le_refl _) (Nat.le_refl _) h)
theorem d_X_witness_0 : decode Y_X_witness.2.1 0 = .ok (.aload_n 0, 1) := by decide +kernel
theorem d_X_witness_1 : decode Y_X_witness.2.1 1 = .ok (.invokevirtual 134, 3) := by decide +kernel
theorem d_X_witness_4 : decode Y_X_witness.2.1 4 = .ok (.iload_n 1, 1) := by decide +kernel
theorem d_X_witness_5 : decode Y_X_witness.2.1 5 = .ok (.iconst (-1), 1) := by decide +kernel
theorem d_X_witness_6 : decode Y_X_witness.2.1 6 = .ok (.if_icmp .ne (11), 3) := by decide +kernel
theorem d_X_witness_9 : decode Y_X_witness.2.1 9 = .ok (.aload_n 0, 1) := by decide +kernel
theorem d_X_witness_10 : decode Y_X_witness.2.1 10 = .ok (.getfield 19, 3) := by decide +kernel
theorem d_X_witness_13 : decode Y_X_witness.2.1 13 = .ok (.getfield 137, 3) := by decide +kernel
theorem d_X_witness_16 : decode Y_X_witness.2.1 16 = .ok (.ireturn, 1) := by decide +kernel
theorem d_X_witness_17 : decode Y_X_witness.2.1 17 = .ok (.iload_n 1, 1) := by decide +kernel
theorem d_X_witness_18 : decode Y_X_witness.2.1 18 = .ok (.ifCond .lt (14), 3) := by decide +kernel
theorem d_X_witness_21 : decode Y_X_witness.2.1 21 = .ok (.iload_n 1, 1) := by decide +kernel
theorem d_X_witness_22 : decode Y_X_witness.2.1 22 = .ok (.aload_n 0, 1) := by decide +kernel
theorem d_X_witness_23 : decode Y_X_witness.2.1 23 = .ok (.getfield 19, 3) := by decide +kernel
theorem d_X_witness_26 : decode Y_X_witness.2.1 26 = .ok (.getfield 140, 3) := by decide +kernel
theorem d_X_witness_29 : decode Y_X_witness.2.1 29 = .ok (.if_icmp .lt (13), 3) := by decide +kernel
theorem d_X_witness_42 : decode Y_X_witness.2.1 42 = .ok (.aload_n 0, 1) := by decide +kernel
theorem d_X_witness_43 : decode Y_X_witness.2.1 43 = .ok (.getfield 19, 3) := by decide +kernel
theorem d_X_witness_46 : decode Y_X_witness.2.1 46 = .ok (.getfield 145, 3) := by decide +kernel
theorem d_X_witness_49 : decode Y_X_witness.2.1 49 = .ok (.iload_n 1, 1) := by decide +kernel
theorem d_X_witness_50 : decode Y_X_witness.2.1 50 = .ok (.iaload, 1) := by decide +kernel
theorem d_X_witness_51 : decode Y_X_witness.2.1 51 = .ok (.ireturn, 1) := by decide +kernel
def F_X_witness_32 (n : Nat) (M : PM) : qO :=
  some (.inr "java/lang/IndexOutOfBoundsException", nX M)
set_option maxHeartbeats 4000000 in
set_option maxRecDepth 100000 in
theorem E_X_witness_32 {g : qG} {X : qX} {Z : qZ} (hn : 7 ≤ zn Z) (hl : 102 ≤ zl Z) {n : Nat} {M : PM} (h : F_X_witness_32 n M = some (zr Z, zf Z)) : EW Y_X_witness g X Z 32 [] [] M := by
  unfold F_X_witness_32 at h
  obtain ⟨hz, hm⟩ := Prod.mk.inj (Option.some.inj h)
  exact ew_throw (qHd_ne (by decide)) th_X_witness_32 hz.symm hm.symm (Nat.le_trans (Nat.le_of_ble_eq_true rfl) hn) (Nat.le_trans (Nat.le_of_ble_eq_true rfl) hl)
def F_X_witness (n : Nat) (l0 : Nat) (l1 : Int32) (M : PM) : qO :=
  kO 1 M l0 (
  tV (F_X_requireFailure n l0 M) (fun M1 =>
  if l1 = (-1 : Int32) then
    gR 1 M1 l0 1 (fun v10 =>
    gI 4 M1 v10 3 (fun v11 =>
    some (.inl (some (.int v11)), M1)))
  else
    if l1 < (0 : Int32) then
      F_X_witness_32 n M1
    else
      gR 1 M1 l0 1 (fun v4 =>
      gI 4 M1 v4 2 (fun v5 =>
      if l1 < v5 then
        gR 1 M1 l0 1 (fun v7 =>
        gR 4 M1 v7 0 (fun v8 =>
        lI M1 v8 l1 (fun v9 =>
        some (.inl (some (.int v9)), M1))))
      else
        F_X_witness_32 n M1))))
set_option maxHeartbeats 4000000 in
set_option maxRecDepth 100000 in
theorem E_X_witness {g : qG} {X : qX} {Z : qZ} (hn : 7 ≤ zn Z) (hl : 102 ≤ zl Z) {n : Nat} {l0 : Nat} {l1 : Int32} {M : PM} (h : F_X_witness n l0 l1 M = some (zr Z, zf Z)) : EW Y_X_witness g X Z 0 [(0, .ref l0), (1, .int l1)] [] M := by
  unfold F_X_witness at h
  refine ew_aload_n 0 d_X_witness_0 rfl rfl ?_
  obtain ⟨kM1, h⟩ := kO_inv h
  rcases Or.symm (tV_inv h) with ⟨EM1, NM1, hM1, h⟩ | ⟨M1, hM1, h⟩
  · exact ew_callVx 1 [] d_X_witness_1 cv_X_134 lk_X_134 (T_X_requireFailure hM1) kM1 (Nat.le_trans (Nat.le_of_ble_eq_true rfl) hn) (Nat.le_trans (Nat.le_of_ble_eq_true rfl) hl) (Nat.le_of_ble_eq_true rfl) rfl (ew_leave (qHd_ne (by decide)) (Prod.mk.inj h).1 (Prod.mk.inj h).2)
  refine ew_callV 1 [] d_X_witness_1 cv_X_134 (T_X_requireFailure hM1) kM1 (Nat.le_trans (Nat.le_of_ble_eq_true rfl) hn) (Nat.le_trans (Nat.le_of_ble_eq_true rfl) hl) (Nat.le_of_ble_eq_true rfl) rfl rfl ?_
  refine ew_iload_n 1 d_X_witness_4 rfl rfl ?_
  refine ew_iconst (-1) d_X_witness_5 (by decide) ?_
  refine ew_icmp_ne 17 d_X_witness_6 (by decide) (fun c2 => ?_) (fun c2 => ?_)
  · rw [if_neg c2] at h
    refine ew_iload_n 1 d_X_witness_17 rfl rfl ?_
    refine ew_if_lt 32 d_X_witness_18 (by decide) (fun c3 => ?_) (fun c3 => ?_)
    · rw [if_pos c3] at h
      exact ew_pick (L' := []) [] rfl (E_X_witness_32 hn hl h)
    · rw [if_neg c3] at h
      refine ew_iload_n 1 d_X_witness_21 rfl rfl ?_
      refine ew_aload_n 0 d_X_witness_22 rfl rfl ?_
      obtain ⟨v4, av4, bv4, h⟩ := gR_inv h
      refine ew_gR 1 1 d_X_witness_23 fl_X_19 av4 bv4 ?_
      obtain ⟨v5, av5, bv5, h⟩ := gI_inv h
      refine ew_gI 4 2 d_X_witness_26 fl_X_140 av5 bv5 ?_
      refine ew_icmp_lt 42 d_X_witness_29 (by decide) (fun c6 => ?_) (fun c6 => ?_)
      · rw [if_pos c6] at h
        refine ew_aload_n 0 d_X_witness_42 rfl rfl ?_
        obtain ⟨v7, av7, bv7, h⟩ := gR_inv h
        refine ew_gR 1 1 d_X_witness_43 fl_X_19 av7 bv7 ?_
        obtain ⟨v8, av8, bv8, h⟩ := gR_inv h
        refine ew_gR 4 0 d_X_witness_46 fl_X_145 av8 bv8 ?_
        refine ew_iload_n 1 d_X_witness_49 rfl rfl ?_
        obtain ⟨v9, av9, bv9, cv9, ev9, h⟩ := lI_inv h
        refine ew_lI d_X_witness_50 av9 bv9 cv9 ev9 ?_
        obtain ⟨hz, hm⟩ := Prod.mk.inj (Option.some.inj h)
        exact ew_ireturn d_X_witness_51 rfl hz.symm hm.symm
      · rw [if_neg c6] at h
        exact ew_pick (L' := []) [] rfl (E_X_witness_32 hn hl h)
  · rw [if_pos c2] at h
    refine ew_aload_n 0 d_X_witness_9 rfl rfl ?_
    obtain ⟨v10, av10, bv10, h⟩ := gR_inv h
    refine ew_gR 1 1 d_X_witness_10 fl_X_19 av10 bv10 ?_
    obtain ⟨v11, av11, bv11, h⟩ := gI_inv h
    refine ew_gI 4 3 d_X_witness_13 fl_X_137 av11 bv11 ?_
    obtain ⟨hz, hm⟩ := Prod.mk.inj (Option.some.inj h)
    exact ew_ireturn d_X_witness_16 rfl hz.symm hm.symm
theorem T_X_witness {n : Nat} {l0 : Nat} {l1 : Int32} {M Mf : PM} {res : qRs} (h : F_X_witness n l0 l1 M = some (res, Mf)) : CT Y_X_witness 7 102 [.ref l0, .int l1] M res Mf :=
  CT_of (by decide) (Nat.le_of_ble_eq_true rfl) (qHd_ne (by decide)) (fun g X ad0 => E_X_witness (g := g) (X := X) (Z := (ad0, M, res, Mf, 7, 102)) (Nat.le_refl _) (Nat.le_refl _) h)
theorem d_X_differs_0 : decode Y_X_differs.2.1 0 = .ok (.aload_n 0, 1) := by decide +kernel
theorem d_X_differs_1 : decode Y_X_differs.2.1 1 = .ok (.invokevirtual 134, 3) := by decide +kernel
theorem d_X_differs_4 : decode Y_X_differs.2.1 4 = .ok (.aload_n 0, 1) := by decide +kernel
theorem d_X_differs_5 : decode Y_X_differs.2.1 5 = .ok (.getfield 19, 3) := by decide +kernel
theorem d_X_differs_8 : decode Y_X_differs.2.1 8 = .ok (.getfield 148, 3) := by decide +kernel
theorem d_X_differs_11 : decode Y_X_differs.2.1 11 = .ok (.ireturn, 1) := by decide +kernel
def F_X_differs (n : Nat) (l0 : Nat) (M : PM) : qO :=
  kO 1 M l0 (
  tV (F_X_requireFailure n l0 M) (fun M1 =>
  gR 1 M1 l0 1 (fun v2 =>
  gI 4 M1 v2 4 (fun v3 =>
  some (.inl (some (.int v3)), M1)))))
set_option maxHeartbeats 4000000 in
set_option maxRecDepth 100000 in
theorem E_X_differs {g : qG} {X : qX} {Z : qZ} (hn : 7 ≤ zn Z) (hl : 102 ≤ zl Z) {n : Nat} {l0 : Nat} {M : PM} (h : F_X_differs n l0 M = some (zr Z, zf Z)) : EW Y_X_differs g X Z 0 [(0, .ref l0)] [] M := by
  unfold F_X_differs at h
  refine ew_aload_n 0 d_X_differs_0 rfl rfl ?_
  obtain ⟨kM1, h⟩ := kO_inv h
  rcases Or.symm (tV_inv h) with ⟨EM1, NM1, hM1, h⟩ | ⟨M1, hM1, h⟩
  · exact ew_callVx 1 [] d_X_differs_1 cv_X_134 lk_X_134 (T_X_requireFailure hM1) kM1 (Nat.le_trans (Nat.le_of_ble_eq_true rfl) hn) (Nat.le_trans (Nat.le_of_ble_eq_true rfl) hl) (Nat.le_of_ble_eq_true rfl) rfl (ew_leave (qHd_ne (by decide)) (Prod.mk.inj h).1 (Prod.mk.inj h).2)
  refine ew_callV 1 [] d_X_differs_1 cv_X_134 (T_X_requireFailure hM1) kM1 (Nat.le_trans (Nat.le_of_ble_eq_true rfl) hn) (Nat.le_trans (Nat.le_of_ble_eq_true rfl) hl) (Nat.le_of_ble_eq_true rfl) rfl rfl ?_
  refine ew_aload_n 0 d_X_differs_4 rfl rfl ?_
  obtain ⟨v2, av2, bv2, h⟩ := gR_inv h
  refine ew_gR 1 1 d_X_differs_5 fl_X_19 av2 bv2 ?_
  obtain ⟨v3, av3, bv3, h⟩ := gI_inv h
  refine ew_gI 4 4 d_X_differs_8 fl_X_148 av3 bv3 ?_
  obtain ⟨hz, hm⟩ := Prod.mk.inj (Option.some.inj h)
  exact ew_ireturn d_X_differs_11 rfl hz.symm hm.symm
theorem T_X_differs {n : Nat} {l0 : Nat} {M Mf : PM} {res : qRs} (h : F_X_differs n l0 M = some (res, Mf)) : CT Y_X_differs 7 102 [.ref l0] M res Mf :=
  CT_of (by decide) (Nat.le_of_ble_eq_true rfl) (qHd_ne (by decide)) (fun g X ad0 => E_X_differs (g := g) (X := X) (Z := (ad0, M, res, Mf, 7, 102)) (Nat.le_refl _) (Nat.le_refl _) h)
theorem d_X_node_0 : decode Y_X_node.2.1 0 = .ok (.aload_n 0, 1) := by decide +kernel
theorem d_X_node_1 : decode Y_X_node.2.1 1 = .ok (.iload_n 1, 1) := by decide +kernel
theorem d_X_node_2 : decode Y_X_node.2.1 2 = .ok (.invokevirtual 37, 3) := by decide +kernel
theorem d_X_node_5 : decode Y_X_node.2.1 5 = .ok (.iload_n 2, 1) := by decide +kernel
theorem d_X_node_6 : decode Y_X_node.2.1 6 = .ok (.tableswitch (82) 0 3 #[30, 43, 56, 69], 30) := by decide +kernel
theorem d_X_node_36 : decode Y_X_node.2.1 36 = .ok (.aload_n 0, 1) := by decide +kernel
theorem d_X_node_37 : decode Y_X_node.2.1 37 = .ok (.getfield 12, 3) := by decide +kernel
theorem d_X_node_40 : decode Y_X_node.2.1 40 = .ok (.getfield 51, 3) := by decide +kernel
theorem d_X_node_43 : decode Y_X_node.2.1 43 = .ok (.getfield 151, 3) := by decide +kernel
theorem d_X_node_46 : decode Y_X_node.2.1 46 = .ok (.iload_n 1, 1) := by decide +kernel
theorem d_X_node_47 : decode Y_X_node.2.1 47 = .ok (.iaload, 1) := by decide +kernel
theorem d_X_node_48 : decode Y_X_node.2.1 48 = .ok (.ireturn, 1) := by decide +kernel
theorem d_X_node_49 : decode Y_X_node.2.1 49 = .ok (.aload_n 0, 1) := by decide +kernel
theorem d_X_node_50 : decode Y_X_node.2.1 50 = .ok (.getfield 12, 3) := by decide +kernel
theorem d_X_node_53 : decode Y_X_node.2.1 53 = .ok (.getfield 51, 3) := by decide +kernel
theorem d_X_node_56 : decode Y_X_node.2.1 56 = .ok (.getfield 154, 3) := by decide +kernel
theorem d_X_node_59 : decode Y_X_node.2.1 59 = .ok (.iload_n 1, 1) := by decide +kernel
theorem d_X_node_60 : decode Y_X_node.2.1 60 = .ok (.iaload, 1) := by decide +kernel
theorem d_X_node_61 : decode Y_X_node.2.1 61 = .ok (.ireturn, 1) := by decide +kernel
theorem d_X_node_62 : decode Y_X_node.2.1 62 = .ok (.aload_n 0, 1) := by decide +kernel
theorem d_X_node_63 : decode Y_X_node.2.1 63 = .ok (.getfield 12, 3) := by decide +kernel
theorem d_X_node_66 : decode Y_X_node.2.1 66 = .ok (.getfield 51, 3) := by decide +kernel
theorem d_X_node_69 : decode Y_X_node.2.1 69 = .ok (.getfield 157, 3) := by decide +kernel
theorem d_X_node_72 : decode Y_X_node.2.1 72 = .ok (.iload_n 1, 1) := by decide +kernel
theorem d_X_node_73 : decode Y_X_node.2.1 73 = .ok (.iaload, 1) := by decide +kernel
theorem d_X_node_74 : decode Y_X_node.2.1 74 = .ok (.ireturn, 1) := by decide +kernel
theorem d_X_node_75 : decode Y_X_node.2.1 75 = .ok (.aload_n 0, 1) := by decide +kernel
theorem d_X_node_76 : decode Y_X_node.2.1 76 = .ok (.getfield 12, 3) := by decide +kernel
theorem d_X_node_79 : decode Y_X_node.2.1 79 = .ok (.getfield 51, 3) := by decide +kernel
theorem d_X_node_82 : decode Y_X_node.2.1 82 = .ok (.getfield 160, 3) := by decide +kernel
theorem d_X_node_85 : decode Y_X_node.2.1 85 = .ok (.iload_n 1, 1) := by decide +kernel
theorem d_X_node_86 : decode Y_X_node.2.1 86 = .ok (.iaload, 1) := by decide +kernel
theorem d_X_node_87 : decode Y_X_node.2.1 87 = .ok (.ireturn, 1) := by decide +kernel
def F_X_node (n : Nat) (l0 : Nat) (l1 : Int32) (l2 : Int32) (M : PM) : qO :=
  kO 1 M l0 (
  tV (F_X_requireNode n l0 l1 M) (fun M1 =>
  if l2 = (0 : Int32) then
    gR 1 M1 l0 0 (fun v3 =>
    gR 2 M1 v3 0 (fun v4 =>
    gR 3 M1 v4 0 (fun v5 =>
    lI M1 v5 l1 (fun v6 =>
    some (.inl (some (.int v6)), M1)))))
  else
  if l2 = (1 : Int32) then
    gR 1 M1 l0 0 (fun v8 =>
    gR 2 M1 v8 0 (fun v9 =>
    gR 3 M1 v9 1 (fun v10 =>
    lI M1 v10 l1 (fun v11 =>
    some (.inl (some (.int v11)), M1)))))
  else
  if l2 = (2 : Int32) then
    gR 1 M1 l0 0 (fun v13 =>
    gR 2 M1 v13 0 (fun v14 =>
    gR 3 M1 v14 2 (fun v15 =>
    lI M1 v15 l1 (fun v16 =>
    some (.inl (some (.int v16)), M1)))))
  else
  if l2 = (3 : Int32) then
    gR 1 M1 l0 0 (fun v18 =>
    gR 2 M1 v18 0 (fun v19 =>
    gR 3 M1 v19 3 (fun v20 =>
    lI M1 v20 l1 (fun v21 =>
    some (.inl (some (.int v21)), M1)))))
  else
    some (.inr "java/lang/IndexOutOfBoundsException", nX M1)))
set_option maxHeartbeats 4000000 in
set_option maxRecDepth 100000 in
theorem E_X_node {g : qG} {X : qX} {Z : qZ} (hn : 7 ≤ zn Z) (hl : 103 ≤ zl Z) {n : Nat} {l0 : Nat} {l1 : Int32} {l2 : Int32} {M : PM} (h : F_X_node n l0 l1 l2 M = some (zr Z, zf Z)) : EW Y_X_node g X Z 0 [(0, .ref l0), (1, .int l1), (2, .int l2)] [] M := by
  unfold F_X_node at h
  refine ew_aload_n 0 d_X_node_0 rfl rfl ?_
  refine ew_iload_n 1 d_X_node_1 rfl rfl ?_
  obtain ⟨kM1, h⟩ := kO_inv h
  rcases Or.symm (tV_inv h) with ⟨EM1, NM1, hM1, h⟩ | ⟨M1, hM1, h⟩
  · exact ew_callVx 1 [.int l1] d_X_node_2 cv_X_37 lk_X_37 (T_X_requireNode hM1) kM1 (Nat.le_trans (Nat.le_of_ble_eq_true rfl) hn) (Nat.le_trans (Nat.le_of_ble_eq_true rfl) hl) (Nat.le_of_ble_eq_true rfl) rfl (ew_leave (qHd_ne (by decide)) (Prod.mk.inj h).1 (Prod.mk.inj h).2)
  refine ew_callV 1 [.int l1] d_X_node_2 cv_X_37 (T_X_requireNode hM1) kM1 (Nat.le_trans (Nat.le_of_ble_eq_true rfl) hn) (Nat.le_trans (Nat.le_of_ble_eq_true rfl) hl) (Nat.le_of_ble_eq_true rfl) rfl rfl ?_
  refine ew_iload_n 2 d_X_node_5 rfl rfl ?_
  refine (Classical.em (l2 = (0 : Int32))).elim (fun c2 => ?_) (fun c2 => ?_)
  · rw [if_pos c2] at h
    refine ew_swIn 36 d_X_node_6 (by rw [c2]; decide) (by rw [c2]; decide) (by rw [c2]; rfl) (by decide) ?_
    refine ew_aload_n 0 d_X_node_36 rfl rfl ?_
    obtain ⟨v3, av3, bv3, h⟩ := gR_inv h
    refine ew_gR 1 0 d_X_node_37 fl_X_12 av3 bv3 ?_
    obtain ⟨v4, av4, bv4, h⟩ := gR_inv h
    refine ew_gR 2 0 d_X_node_40 fl_X_51 av4 bv4 ?_
    obtain ⟨v5, av5, bv5, h⟩ := gR_inv h
    refine ew_gR 3 0 d_X_node_43 fl_X_151 av5 bv5 ?_
    refine ew_iload_n 1 d_X_node_46 rfl rfl ?_
    obtain ⟨v6, av6, bv6, cv6, ev6, h⟩ := lI_inv h
    refine ew_lI d_X_node_47 av6 bv6 cv6 ev6 ?_
    obtain ⟨hz, hm⟩ := Prod.mk.inj (Option.some.inj h)
    exact ew_ireturn d_X_node_48 rfl hz.symm hm.symm
  rw [if_neg c2] at h
  refine (Classical.em (l2 = (1 : Int32))).elim (fun c7 => ?_) (fun c7 => ?_)
  · rw [if_pos c7] at h
    refine ew_swIn 49 d_X_node_6 (by rw [c7]; decide) (by rw [c7]; decide) (by rw [c7]; rfl) (by decide) ?_
    refine ew_aload_n 0 d_X_node_49 rfl rfl ?_
    obtain ⟨v8, av8, bv8, h⟩ := gR_inv h
    refine ew_gR 1 0 d_X_node_50 fl_X_12 av8 bv8 ?_
    obtain ⟨v9, av9, bv9, h⟩ := gR_inv h
    refine ew_gR 2 0 d_X_node_53 fl_X_51 av9 bv9 ?_
    obtain ⟨v10, av10, bv10, h⟩ := gR_inv h
    refine ew_gR 3 1 d_X_node_56 fl_X_154 av10 bv10 ?_
    refine ew_iload_n 1 d_X_node_59 rfl rfl ?_
    obtain ⟨v11, av11, bv11, cv11, ev11, h⟩ := lI_inv h
    refine ew_lI d_X_node_60 av11 bv11 cv11 ev11 ?_
    obtain ⟨hz, hm⟩ := Prod.mk.inj (Option.some.inj h)
    exact ew_ireturn d_X_node_61 rfl hz.symm hm.symm
  rw [if_neg c7] at h
  refine (Classical.em (l2 = (2 : Int32))).elim (fun c12 => ?_) (fun c12 => ?_)
  · rw [if_pos c12] at h
    refine ew_swIn 62 d_X_node_6 (by rw [c12]; decide) (by rw [c12]; decide) (by rw [c12]; rfl) (by decide) ?_
    refine ew_aload_n 0 d_X_node_62 rfl rfl ?_
    obtain ⟨v13, av13, bv13, h⟩ := gR_inv h
    refine ew_gR 1 0 d_X_node_63 fl_X_12 av13 bv13 ?_
    obtain ⟨v14, av14, bv14, h⟩ := gR_inv h
    refine ew_gR 2 0 d_X_node_66 fl_X_51 av14 bv14 ?_
    obtain ⟨v15, av15, bv15, h⟩ := gR_inv h
    refine ew_gR 3 2 d_X_node_69 fl_X_157 av15 bv15 ?_
    refine ew_iload_n 1 d_X_node_72 rfl rfl ?_
    obtain ⟨v16, av16, bv16, cv16, ev16, h⟩ := lI_inv h
    refine ew_lI d_X_node_73 av16 bv16 cv16 ev16 ?_
    obtain ⟨hz, hm⟩ := Prod.mk.inj (Option.some.inj h)
    exact ew_ireturn d_X_node_74 rfl hz.symm hm.symm
  rw [if_neg c12] at h
  refine (Classical.em (l2 = (3 : Int32))).elim (fun c17 => ?_) (fun c17 => ?_)
  · rw [if_pos c17] at h
    refine ew_swIn 75 d_X_node_6 (by rw [c17]; decide) (by rw [c17]; decide) (by rw [c17]; rfl) (by decide) ?_
    refine ew_aload_n 0 d_X_node_75 rfl rfl ?_
    obtain ⟨v18, av18, bv18, h⟩ := gR_inv h
    refine ew_gR 1 0 d_X_node_76 fl_X_12 av18 bv18 ?_
    obtain ⟨v19, av19, bv19, h⟩ := gR_inv h
    refine ew_gR 2 0 d_X_node_79 fl_X_51 av19 bv19 ?_
    obtain ⟨v20, av20, bv20, h⟩ := gR_inv h
    refine ew_gR 3 3 d_X_node_82 fl_X_160 av20 bv20 ?_
    refine ew_iload_n 1 d_X_node_85 rfl rfl ?_
    obtain ⟨v21, av21, bv21, cv21, ev21, h⟩ := lI_inv h
    refine ew_lI d_X_node_86 av21 bv21 cv21 ev21 ?_
    obtain ⟨hz, hm⟩ := Prod.mk.inj (Option.some.inj h)
    exact ew_ireturn d_X_node_87 rfl hz.symm hm.symm
  rw [if_neg c17] at h
  have zc2 := lv_neT c2 (show (0 : Int32).toInt = 0 by decide)
  have zc7 := lv_neT c7 (show (1 : Int32).toInt = 1 by decide)
  have zc12 := lv_neT c12 (show (2 : Int32).toInt = 2 by decide)
  have zc17 := lv_neT c17 (show (3 : Int32).toInt = 3 by decide)
  refine ew_swOut 88 d_X_node_6 (by omega) (by decide) ?_
  obtain ⟨hz, hm⟩ := Prod.mk.inj (Option.some.inj h)
  exact ew_throw (qHd_ne (by decide)) th_X_node_88 hz.symm hm.symm (Nat.le_trans (Nat.le_of_ble_eq_true rfl) hn) (Nat.le_trans (Nat.le_of_ble_eq_true rfl) hl)
theorem T_X_node {n : Nat} {l0 : Nat} {l1 : Int32} {l2 : Int32} {M Mf : PM} {res : qRs} (h : F_X_node n l0 l1 l2 M = some (res, Mf)) : CT Y_X_node 7 103 [.ref l0, .int l1, .int l2] M res Mf :=
  CT_of (by decide) (Nat.le_of_ble_eq_true rfl) (qHd_ne (by decide)) (fun g X ad0 => E_X_node (g := g) (X := X) (Z := (ad0, M, res, Mf, 7, 103)) (Nat.le_refl _) (Nat.le_refl _) h)
