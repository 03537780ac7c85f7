theorem d_XNodes_spread_0 : decode Y_XNodes_spread.2.1 0 = .ok (.aload_n 0, 1) := by decide +kernel
theorem d_XNodes_spread_1 : decode Y_XNodes_spread.2.1 1 = .ok (.getfield 40, 3) := by decide +kernel
theorem d_XNodes_spread_4 : decode Y_XNodes_spread.2.1 4 = .ok (.iconst 1, 1) := by decide +kernel
theorem d_XNodes_spread_5 : decode Y_XNodes_spread.2.1 5 = .ok (.isub, 1) := by decide +kernel
theorem d_XNodes_spread_6 : decode Y_XNodes_spread.2.1 6 = .ok (.istore_n 2, 1) := by decide +kernel
theorem d_XNodes_spread_7 : decode Y_XNodes_spread.2.1 7 = .ok (.iload_n 2, 1) := by decide +kernel
theorem d_XNodes_spread_8 : decode Y_XNodes_spread.2.1 8 = .ok (.ifCond .lt (69), 3) := by decide +kernel
theorem d_XNodes_spread_11 : decode Y_XNodes_spread.2.1 11 = .ok (.aload_n 1, 1) := by decide +kernel
theorem d_XNodes_spread_12 : decode Y_XNodes_spread.2.1 12 = .ok (.iload_n 2, 1) := by decide +kernel
theorem d_XNodes_spread_13 : decode Y_XNodes_spread.2.1 13 = .ok (.baload, 1) := by decide +kernel
theorem d_XNodes_spread_14 : decode Y_XNodes_spread.2.1 14 = .ok (.ifCond .eq (57), 3) := by decide +kernel
theorem d_XNodes_spread_17 : decode Y_XNodes_spread.2.1 17 = .ok (.aload_n 0, 1) := by decide +kernel
theorem d_XNodes_spread_18 : decode Y_XNodes_spread.2.1 18 = .ok (.getfield 9, 3) := by decide +kernel
theorem d_XNodes_spread_21 : decode Y_XNodes_spread.2.1 21 = .ok (.iload_n 2, 1) := by decide +kernel
theorem d_XNodes_spread_22 : decode Y_XNodes_spread.2.1 22 = .ok (.iaload, 1) := by decide +kernel
theorem d_XNodes_spread_23 : decode Y_XNodes_spread.2.1 23 = .ok (.iconst 5, 1) := by decide +kernel
theorem d_XNodes_spread_24 : decode Y_XNodes_spread.2.1 24 = .ok (.if_icmp .lt (47), 3) := by decide +kernel
theorem d_XNodes_spread_27 : decode Y_XNodes_spread.2.1 27 = .ok (.aload_n 0, 1) := by decide +kernel
theorem d_XNodes_spread_28 : decode Y_XNodes_spread.2.1 28 = .ok (.aload_n 1, 1) := by decide +kernel
theorem d_XNodes_spread_29 : decode Y_XNodes_spread.2.1 29 = .ok (.aload_n 0, 1) := by decide +kernel
theorem d_XNodes_spread_30 : decode Y_XNodes_spread.2.1 30 = .ok (.getfield 15, 3) := by decide +kernel
theorem d_XNodes_spread_33 : decode Y_XNodes_spread.2.1 33 = .ok (.iload_n 2, 1) := by decide +kernel
theorem d_XNodes_spread_34 : decode Y_XNodes_spread.2.1 34 = .ok (.iaload, 1) := by decide +kernel
theorem d_XNodes_spread_35 : decode Y_XNodes_spread.2.1 35 = .ok (.invokevirtual 85, 3) := by decide +kernel
theorem d_XNodes_spread_38 : decode Y_XNodes_spread.2.1 38 = .ok (.aload_n 0, 1) := by decide +kernel
theorem d_XNodes_spread_39 : decode Y_XNodes_spread.2.1 39 = .ok (.aload_n 1, 1) := by decide +kernel
theorem d_XNodes_spread_40 : decode Y_XNodes_spread.2.1 40 = .ok (.aload_n 0, 1) := by decide +kernel
theorem d_XNodes_spread_41 : decode Y_XNodes_spread.2.1 41 = .ok (.getfield 18, 3) := by decide +kernel
theorem d_XNodes_spread_44 : decode Y_XNodes_spread.2.1 44 = .ok (.iload_n 2, 1) := by decide +kernel
theorem d_XNodes_spread_45 : decode Y_XNodes_spread.2.1 45 = .ok (.iaload, 1) := by decide +kernel
theorem d_XNodes_spread_46 : decode Y_XNodes_spread.2.1 46 = .ok (.invokevirtual 85, 3) := by decide +kernel
theorem d_XNodes_spread_49 : decode Y_XNodes_spread.2.1 49 = .ok (.aload_n 0, 1) := by decide +kernel
theorem d_XNodes_spread_50 : decode Y_XNodes_spread.2.1 50 = .ok (.getfield 9, 3) := by decide +kernel
theorem d_XNodes_spread_53 : decode Y_XNodes_spread.2.1 53 = .ok (.iload_n 2, 1) := by decide +kernel
theorem d_XNodes_spread_54 : decode Y_XNodes_spread.2.1 54 = .ok (.iaload, 1) := by decide +kernel
theorem d_XNodes_spread_55 : decode Y_XNodes_spread.2.1 55 = .ok (.bipush (9), 2) := by decide +kernel
theorem d_XNodes_spread_57 : decode Y_XNodes_spread.2.1 57 = .ok (.if_icmp .ne (14), 3) := by decide +kernel
theorem d_XNodes_spread_60 : decode Y_XNodes_spread.2.1 60 = .ok (.aload_n 0, 1) := by decide +kernel
theorem d_XNodes_spread_61 : decode Y_XNodes_spread.2.1 61 = .ok (.aload_n 1, 1) := by decide +kernel
theorem d_XNodes_spread_62 : decode Y_XNodes_spread.2.1 62 = .ok (.aload_n 0, 1) := by decide +kernel
theorem d_XNodes_spread_63 : decode Y_XNodes_spread.2.1 63 = .ok (.getfield 21, 3) := by decide +kernel
theorem d_XNodes_spread_66 : decode Y_XNodes_spread.2.1 66 = .ok (.iload_n 2, 1) := by decide +kernel
theorem d_XNodes_spread_67 : decode Y_XNodes_spread.2.1 67 = .ok (.iaload, 1) := by decide +kernel
theorem d_XNodes_spread_68 : decode Y_XNodes_spread.2.1 68 = .ok (.invokevirtual 85, 3) := by decide +kernel
theorem d_XNodes_spread_71 : decode Y_XNodes_spread.2.1 71 = .ok (.iinc 2 (-1), 3) := by decide +kernel
theorem d_XNodes_spread_74 : decode Y_XNodes_spread.2.1 74 = .ok (.goto (-67), 3) := by decide +kernel
theorem d_XNodes_spread_77 : decode Y_XNodes_spread.2.1 77 = .ok (.return_, 1) := by decide +kernel
def F_XNodes_spread_71 (n : Nat) (rec7 : Nat → Nat → Int32 → PM → qO) (l0 : Nat) (l1 : Nat) (l2 : Int32) (M : PM) : qO :=
  bI (l2 + (-1 : Int32)) (fun v1 =>
  rec7 l0 l1 v1 M)
set_option maxHeartbeats 4000000 in
set_option maxRecDepth 100000 in
theorem E_XNodes_spread_71 {g : qG} {X : qX} {Z : qZ} (hn : 2 ≤ zn Z) (hl : 43 ≤ zl Z) {n : Nat} {rec7 : Nat → Nat → Int32 → PM → qO} (hrec7 : ∀ (l0 : Nat) (l1 : Nat) (l2 : Int32) (M : PM), rec7 l0 l1 l2 M = some (zr Z, zf Z) → EW Y_XNodes_spread g X Z 7 [(0, .ref l0), (1, .ref l1), (2, .int l2)] [] M) {l0 : Nat} {l1 : Nat} {l2 : Int32} {M : PM} (h : F_XNodes_spread_71 n rec7 l0 l1 l2 M = some (zr Z, zf Z)) : EW Y_XNodes_spread g X Z 71 [(0, .ref l0), (1, .ref l1), (2, .int l2)] [] M := by
  unfold F_XNodes_spread_71 at h
  obtain ⟨v1, ev1, h⟩ := bI_inv h
  refine ew_iinc (L' := [(0, .ref l0), (1, .ref l1), (2, .int v1)]) v1 [1, 2, 0] d_XNodes_spread_71 rfl (by rw [ev1]; rfl) (by decide) rfl ?_
  refine ew_goto 7 d_XNodes_spread_74 (by decide) ?_
  exact hrec7 l0 l1 v1 M h
def F_XNodes_spread_7 (n : Nat) : Nat → Nat → Nat → Int32 → PM → qO
  | 0, _, _, _, _ => none
  | f + 1, l0, l1, l2, M =>
    if l2 < (0 : Int32) then
      some (.inl none, M)
    else
      lZ M l1 l2 (fun v2 =>
      if v2 = (0 : Int32) then
        F_XNodes_spread_71 n (F_XNodes_spread_7 n f) l0 l1 l2 M
      else
        gR 3 M l0 0 (fun v4 =>
        lI M v4 l2 (fun v5 =>
        if v5 < (5 : Int32) then
          F_XNodes_spread_71 n (F_XNodes_spread_7 n f) l0 l1 l2 M
        else
          gR 3 M l0 1 (fun v7 =>
          lI M v7 l2 (fun v8 =>
          kO 3 M l0 (
          cV (F_XNodes_mark n l0 l1 v8 M) (fun M9 =>
          gR 3 M9 l0 2 (fun v10 =>
          lI M9 v10 l2 (fun v11 =>
          kO 3 M9 l0 (
          cV (F_XNodes_mark n l0 l1 v11 M9) (fun M12 =>
          gR 3 M12 l0 0 (fun v13 =>
          lI M12 v13 l2 (fun v14 =>
          if v14 = (9 : Int32) then
            gR 3 M12 l0 3 (fun v16 =>
            lI M12 v16 l2 (fun v17 =>
            kO 3 M12 l0 (
            cV (F_XNodes_mark n l0 l1 v17 M12) (fun M18 =>
            F_XNodes_spread_71 n (F_XNodes_spread_7 n f) l0 l1 l2 M18))))
          else
            F_XNodes_spread_71 n (F_XNodes_spread_7 n f) l0 l1 l2 M12)))))))))))))
set_option maxHeartbeats 4000000 in
set_option maxRecDepth 100000 in
theorem E_XNodes_spread_7 {g : qG} {X : qX} {Z : qZ} (hn : 2 ≤ zn Z) (hl : 43 ≤ zl Z) {n : Nat} : ∀ (f : Nat) (l0 : Nat) (l1 : Nat) (l2 : Int32) (M : PM), F_XNodes_spread_7 n f l0 l1 l2 M = some (zr Z, zf Z) → EW Y_XNodes_spread g X Z 7 [(0, .ref l0), (1, .ref l1), (2, .int l2)] [] M := by
  intro f
  induction f with
  | zero => intro l0 l1 l2 M h; rw [F_XNodes_spread_7] at h; cases h
  | succ f ih =>
    intro l0 l1 l2 M h
    rw [F_XNodes_spread_7] at h
    refine ew_iload_n 2 d_XNodes_spread_7 rfl rfl ?_
    refine ew_if_lt 77 d_XNodes_spread_8 (by decide) (fun c1 => ?_) (fun c1 => ?_)
    · rw [if_pos c1] at h
      obtain ⟨hz, hm⟩ := Prod.mk.inj (Option.some.inj h)
      exact ew_return d_XNodes_spread_77 rfl hz.symm hm.symm
    · rw [if_neg c1] at h
      refine ew_aload_n 1 d_XNodes_spread_11 rfl rfl ?_
      refine ew_iload_n 2 d_XNodes_spread_12 rfl rfl ?_
      obtain ⟨v2, av2, bv2, cv2, ev2, h⟩ := lZ_inv h
      refine ew_lZ d_XNodes_spread_13 av2 bv2 cv2 ev2 ?_
      refine ew_if_eq 71 d_XNodes_spread_14 (by decide) (fun c3 => ?_) (fun c3 => ?_)
      · rw [if_pos c3] at h
        exact E_XNodes_spread_71 hn hl ih h
      · rw [if_neg c3] at h
        refine ew_aload_n 0 d_XNodes_spread_17 rfl rfl ?_
        obtain ⟨v4, av4, bv4, h⟩ := gR_inv h
        refine ew_gR 3 0 d_XNodes_spread_18 fl_XNodes_9 av4 bv4 ?_
        refine ew_iload_n 2 d_XNodes_spread_21 rfl rfl ?_
        obtain ⟨v5, av5, bv5, cv5, ev5, h⟩ := lI_inv h
        refine ew_lI d_XNodes_spread_22 av5 bv5 cv5 ev5 ?_
        refine ew_iconst (5) d_XNodes_spread_23 (by decide) ?_
        refine ew_icmp_lt 71 d_XNodes_spread_24 (by decide) (fun c6 => ?_) (fun c6 => ?_)
        · rw [if_pos c6] at h
          exact E_XNodes_spread_71 hn hl ih h
        · rw [if_neg c6] at h
          refine ew_aload_n 0 d_XNodes_spread_27 rfl rfl ?_
          refine ew_aload_n 1 d_XNodes_spread_28 rfl rfl ?_
          refine ew_aload_n 0 d_XNodes_spread_29 rfl rfl ?_
          obtain ⟨v7, av7, bv7, h⟩ := gR_inv h
          refine ew_gR 3 1 d_XNodes_spread_30 fl_XNodes_15 av7 bv7 ?_
          refine ew_iload_n 2 d_XNodes_spread_33 rfl rfl ?_
          obtain ⟨v8, av8, bv8, cv8, ev8, h⟩ := lI_inv h
          refine ew_lI d_XNodes_spread_34 av8 bv8 cv8 ev8 ?_
          obtain ⟨kM9, h⟩ := kO_inv h
          obtain ⟨M9, hM9, h⟩ := cV_inv h
          refine ew_callV 3 [.ref l1, .int v8] d_XNodes_spread_35 cv_XNodes_85 (T_XNodes_mark hM9) kM9 (Nat.le_trans (Nat.le_of_ble_eq_true rfl) hn) (Nat.le_trans (Nat.le_of_ble_eq_true rfl) hl) (Nat.le_of_ble_eq_true rfl) rfl rfl ?_
          refine ew_aload_n 0 d_XNodes_spread_38 rfl rfl ?_
          refine ew_aload_n 1 d_XNodes_spread_39 rfl rfl ?_
          refine ew_aload_n 0 d_XNodes_spread_40 rfl rfl ?_
          obtain ⟨v10, av10, bv10, h⟩ := gR_inv h
          refine ew_gR 3 2 d_XNodes_spread_41 fl_XNodes_18 av10 bv10 ?_
          refine ew_iload_n 2 d_XNodes_spread_44 rfl rfl ?_
          obtain ⟨v11, av11, bv11, cv11, ev11, h⟩ := lI_inv h
          refine ew_lI d_XNodes_spread_45 av11 bv11 cv11 ev11 ?_
          obtain ⟨kM12, h⟩ := kO_inv h
          obtain ⟨M12, hM12, h⟩ := cV_inv h
          refine ew_callV 3 [.ref l1, .int v11] d_XNodes_spread_46 cv_XNodes_85 (T_XNodes_mark hM12) kM12 (Nat.le_trans (Nat.le_of_ble_eq_true rfl) hn) (Nat.le_trans (Nat.le_of_ble_eq_true rfl) hl) (Nat.le_of_ble_eq_true rfl) rfl rfl ?_
          refine ew_aload_n 0 d_XNodes_spread_49 rfl rfl ?_
          obtain ⟨v13, av13, bv13, h⟩ := gR_inv h
          refine ew_gR 3 0 d_XNodes_spread_50 fl_XNodes_9 av13 bv13 ?_
          refine ew_iload_n 2 d_XNodes_spread_53 rfl rfl ?_
          obtain ⟨v14, av14, bv14, cv14, ev14, h⟩ := lI_inv h
          refine ew_lI d_XNodes_spread_54 av14 bv14 cv14 ev14 ?_
          refine ew_bipush (9) d_XNodes_spread_55 (by decide +kernel) ?_
          refine ew_icmp_ne 71 d_XNodes_spread_57 (by decide) (fun c15 => ?_) (fun c15 => ?_)
          · rw [if_neg c15] at h
            exact E_XNodes_spread_71 hn hl ih h
          · rw [if_pos c15] at h
            refine ew_aload_n 0 d_XNodes_spread_60 rfl rfl ?_
            refine ew_aload_n 1 d_XNodes_spread_61 rfl rfl ?_
            refine ew_aload_n 0 d_XNodes_spread_62 rfl rfl ?_
            obtain ⟨v16, av16, bv16, h⟩ := gR_inv h
            refine ew_gR 3 3 d_XNodes_spread_63 fl_XNodes_21 av16 bv16 ?_
            refine ew_iload_n 2 d_XNodes_spread_66 rfl rfl ?_
            obtain ⟨v17, av17, bv17, cv17, ev17, h⟩ := lI_inv h
            refine ew_lI d_XNodes_spread_67 av17 bv17 cv17 ev17 ?_
            obtain ⟨kM18, h⟩ := kO_inv h
            obtain ⟨M18, hM18, h⟩ := cV_inv h
            refine ew_callV 3 [.ref l1, .int v17] d_XNodes_spread_68 cv_XNodes_85 (T_XNodes_mark hM18) kM18 (Nat.le_trans (Nat.le_of_ble_eq_true rfl) hn) (Nat.le_trans (Nat.le_of_ble_eq_true rfl) hl) (Nat.le_of_ble_eq_true rfl) rfl rfl ?_
            exact E_XNodes_spread_71 hn hl ih h
def F_XNodes_spread (n : Nat) (l0 : Nat) (l1 : Nat) (M : PM) : qO :=
  gI 3 M l0 7 (fun v1 =>
  bI (v1 - (1 : Int32)) (fun v2 =>
  F_XNodes_spread_7 n n l0 l1 v2 M))
set_option maxHeartbeats 4000000 in
set_option maxRecDepth 100000 in
theorem E_XNodes_spread {g : qG} {X : qX} {Z : qZ} (hn : 2 ≤ zn Z) (hl : 43 ≤ zl Z) {n : Nat} {l0 : Nat} {l1 : Nat} {M : PM} (h : F_XNodes_spread n l0 l1 M = some (zr Z, zf Z)) : EW Y_XNodes_spread g X Z 0 [(0, .ref l0), (1, .ref l1)] [] M := by
  unfold F_XNodes_spread at h
  refine ew_aload_n 0 d_XNodes_spread_0 rfl rfl ?_
  obtain ⟨v1, av1, bv1, h⟩ := gI_inv h
  refine ew_gI 3 7 d_XNodes_spread_1 fl_XNodes_40 av1 bv1 ?_
  refine ew_iconst (1) d_XNodes_spread_4 (by decide) ?_
  refine ew_isub d_XNodes_spread_5 ?_
  obtain ⟨v2, ev2, h⟩ := bI_inv h
  refine ew_topI ev2 ?_
  refine ew_istore_n (L' := [(0, .ref l0), (1, .ref l1), (2, .int v2)]) 2 [1, 2, 0] d_XNodes_spread_6 rfl (by decide) rfl ?_
  exact E_XNodes_spread_7 hn hl n l0 l1 v2 M h
theorem T_XNodes_spread {n : Nat} {l0 : Nat} {l1 : Nat} {M Mf : PM} {res : qRs} (h : F_XNodes_spread n l0 l1 M = some (res, Mf)) : CT Y_XNodes_spread 2 43 [.ref l0, .ref l1] M res Mf :=
  CT_of (by decide) (Nat.le_of_ble_eq_true rfl) (qHd_ne (by decide)) (fun g X ad0 => E_XNodes_spread (g := g) (X := X) (Z := (ad0, M, res, Mf, 2, 43)) (Nat.le_refl _) (Nat.le_refl _) h)
theorem d_XCore_hasFetch_0 : decode Y_XCore_hasFetch.2.1 0 = .ok (.aload_n 0, 1) := by decide +kernel
theorem d_XCore_hasFetch_1 : decode Y_XCore_hasFetch.2.1 1 = .ok (.getfield 14, 3) := by decide +kernel
theorem d_XCore_hasFetch_4 : decode Y_XCore_hasFetch.2.1 4 = .ok (.aload_n 0, 1) := by decide +kernel
theorem d_XCore_hasFetch_5 : decode Y_XCore_hasFetch.2.1 5 = .ok (.getfield 36, 3) := by decide +kernel
theorem d_XCore_hasFetch_8 : decode Y_XCore_hasFetch.2.1 8 = .ok (.invokevirtual 40, 3) := by decide +kernel
theorem d_XCore_hasFetch_11 : decode Y_XCore_hasFetch.2.1 11 = .ok (.aload_n 0, 1) := by decide +kernel
theorem d_XCore_hasFetch_12 : decode Y_XCore_hasFetch.2.1 12 = .ok (.getfield 14, 3) := by decide +kernel
theorem d_XCore_hasFetch_15 : decode Y_XCore_hasFetch.2.1 15 = .ok (.aload_n 0, 1) := by decide +kernel
theorem d_XCore_hasFetch_16 : decode Y_XCore_hasFetch.2.1 16 = .ok (.getfield 36, 3) := by decide +kernel
theorem d_XCore_hasFetch_19 : decode Y_XCore_hasFetch.2.1 19 = .ok (.iload_n 1, 1) := by decide +kernel
theorem d_XCore_hasFetch_20 : decode Y_XCore_hasFetch.2.1 20 = .ok (.invokevirtual 44, 3) := by decide +kernel
theorem d_XCore_hasFetch_23 : decode Y_XCore_hasFetch.2.1 23 = .ok (.aload_n 0, 1) := by decide +kernel
theorem d_XCore_hasFetch_24 : decode Y_XCore_hasFetch.2.1 24 = .ok (.getfield 14, 3) := by decide +kernel
theorem d_XCore_hasFetch_27 : decode Y_XCore_hasFetch.2.1 27 = .ok (.aload_n 0, 1) := by decide +kernel
theorem d_XCore_hasFetch_28 : decode Y_XCore_hasFetch.2.1 28 = .ok (.getfield 36, 3) := by decide +kernel
theorem d_XCore_hasFetch_31 : decode Y_XCore_hasFetch.2.1 31 = .ok (.invokevirtual 48, 3) := by decide +kernel
theorem d_XCore_hasFetch_34 : decode Y_XCore_hasFetch.2.1 34 = .ok (.aload_n 0, 1) := by decide +kernel
theorem d_XCore_hasFetch_35 : decode Y_XCore_hasFetch.2.1 35 = .ok (.getfield 36, 3) := by decide +kernel
theorem d_XCore_hasFetch_38 : decode Y_XCore_hasFetch.2.1 38 = .ok (.iconst 2, 1) := by decide +kernel
theorem d_XCore_hasFetch_39 : decode Y_XCore_hasFetch.2.1 39 = .ok (.baload, 1) := by decide +kernel
theorem d_XCore_hasFetch_40 : decode Y_XCore_hasFetch.2.1 40 = .ok (.ireturn, 1) := by decide +kernel
def F_XCore_hasFetch (n : Nat) (l0 : Nat) (l1 : Int32) (M : PM) : qO :=
  gR 2 M l0 0 (fun v1 =>
  gR 2 M l0 5 (fun v2 =>
  kO 3 M v1 (
  cV (F_XNodes_unmark n v1 v2 M) (fun M3 =>
  gR 2 M3 l0 0 (fun v4 =>
  gR 2 M3 l0 5 (fun v5 =>
  kO 3 M3 v4 (
  cV (F_XNodes_mark n v4 v5 l1 M3) (fun M6 =>
  gR 2 M6 l0 0 (fun v7 =>
  gR 2 M6 l0 5 (fun v8 =>
  kO 3 M6 v7 (
  cV (F_XNodes_spread n v7 v8 M6) (fun M9 =>
  gR 2 M9 l0 5 (fun v10 =>
  lZ M9 v10 (2 : Int32) (fun v11 =>
  rZ v11 M9))))))))))))))
set_option maxHeartbeats 4000000 in
set_option maxRecDepth 100000 in
theorem E_XCore_hasFetch {g : qG} {X : qX} {Z : qZ} (hn : 3 ≤ zn Z) (hl : 65 ≤ zl Z) {n : Nat} {l0 : Nat} {l1 : Int32} {M : PM} (h : F_XCore_hasFetch n l0 l1 M = some (zr Z, zf Z)) : EW Y_XCore_hasFetch g X Z 0 [(0, .ref l0), (1, .int l1)] [] M := by
  unfold F_XCore_hasFetch at h
  refine ew_aload_n 0 d_XCore_hasFetch_0 rfl rfl ?_
  obtain ⟨v1, av1, bv1, h⟩ := gR_inv h
  refine ew_gR 2 0 d_XCore_hasFetch_1 fl_XCore_14 av1 bv1 ?_
  refine ew_aload_n 0 d_XCore_hasFetch_4 rfl rfl ?_
  obtain ⟨v2, av2, bv2, h⟩ := gR_inv h
  refine ew_gR 2 5 d_XCore_hasFetch_5 fl_XCore_36 av2 bv2 ?_
  obtain ⟨kM3, h⟩ := kO_inv h
  obtain ⟨M3, hM3, h⟩ := cV_inv h
  refine ew_callV 3 [.ref v2] d_XCore_hasFetch_8 cv_XCore_40 (T_XNodes_unmark hM3) kM3 (Nat.le_trans (Nat.le_of_ble_eq_true rfl) hn) (Nat.le_trans (Nat.le_of_ble_eq_true rfl) hl) (Nat.le_of_ble_eq_true rfl) rfl rfl ?_
  refine ew_aload_n 0 d_XCore_hasFetch_11 rfl rfl ?_
  obtain ⟨v4, av4, bv4, h⟩ := gR_inv h
  refine ew_gR 2 0 d_XCore_hasFetch_12 fl_XCore_14 av4 bv4 ?_
  refine ew_aload_n 0 d_XCore_hasFetch_15 rfl rfl ?_
  obtain ⟨v5, av5, bv5, h⟩ := gR_inv h
  refine ew_gR 2 5 d_XCore_hasFetch_16 fl_XCore_36 av5 bv5 ?_
  refine ew_iload_n 1 d_XCore_hasFetch_19 rfl rfl ?_
  obtain ⟨kM6, h⟩ := kO_inv h
  obtain ⟨M6, hM6, h⟩ := cV_inv h
  refine ew_callV 3 [.ref v5, .int l1] d_XCore_hasFetch_20 cv_XCore_44 (T_XNodes_mark hM6) kM6 (Nat.le_trans (Nat.le_of_ble_eq_true rfl) hn) (Nat.le_trans (Nat.le_of_ble_eq_true rfl) hl) (Nat.le_of_ble_eq_true rfl) rfl rfl ?_
  refine ew_aload_n 0 d_XCore_hasFetch_23 rfl rfl ?_
  obtain ⟨v7, av7, bv7, h⟩ := gR_inv h
  refine ew_gR 2 0 d_XCore_hasFetch_24 fl_XCore_14 av7 bv7 ?_
  refine ew_aload_n 0 d_XCore_hasFetch_27 rfl rfl ?_
  obtain ⟨v8, av8, bv8, h⟩ := gR_inv h
  refine ew_gR 2 5 d_XCore_hasFetch_28 fl_XCore_36 av8 bv8 ?_
  obtain ⟨kM9, h⟩ := kO_inv h
  obtain ⟨M9, hM9, h⟩ := cV_inv h
  refine ew_callV 3 [.ref v8] d_XCore_hasFetch_31 cv_XCore_48 (T_XNodes_spread hM9) kM9 (Nat.le_trans (Nat.le_of_ble_eq_true rfl) hn) (Nat.le_trans (Nat.le_of_ble_eq_true rfl) hl) (Nat.le_of_ble_eq_true rfl) rfl rfl ?_
  refine ew_aload_n 0 d_XCore_hasFetch_34 rfl rfl ?_
  obtain ⟨v10, av10, bv10, h⟩ := gR_inv h
  refine ew_gR 2 5 d_XCore_hasFetch_35 fl_XCore_36 av10 bv10 ?_
  refine ew_iconst (2) d_XCore_hasFetch_38 (by decide) ?_
  obtain ⟨v11, av11, bv11, cv11, ev11, h⟩ := lZ_inv h
  refine ew_lZ d_XCore_hasFetch_39 av11 bv11 cv11 ev11 ?_
  obtain ⟨hb, h⟩ := rZ_inv h
  obtain ⟨hz, hm⟩ := Prod.mk.inj (Option.some.inj h)
  exact ew_zreturn d_XCore_hasFetch_40 rfl hz.symm hm.symm hb
theorem T_XCore_hasFetch {n : Nat} {l0 : Nat} {l1 : Int32} {M Mf : PM} {res : qRs} (h : F_XCore_hasFetch n l0 l1 M = some (res, Mf)) : CT Y_XCore_hasFetch 3 65 [.ref l0, .int l1] M res Mf :=
  CT_of (by decide) (Nat.le_of_ble_eq_true rfl) (qHd_ne (by decide)) (fun g X ad0 => E_XCore_hasFetch (g := g) (X := X) (Z := (ad0, M, res, Mf, 3, 65)) (Nat.le_refl _) (Nat.le_refl _) h)
theorem d_XNodes_makeElement_0 : decode Y_XNodes_makeElement.2.1 0 = .ok (.aload_n 0, 1) := by decide +kernel
theorem d_XNodes_makeElement_1 : decode Y_XNodes_makeElement.2.1 1 = .ok (.iload_n 1, 1) := by decide +kernel
theorem d_XNodes_makeElement_2 : decode Y_XNodes_makeElement.2.1 2 = .ok (.iload_n 2, 1) := by decide +kernel
theorem d_XNodes_makeElement_3 : decode Y_XNodes_makeElement.2.1 3 = .ok (.iconst (-1), 1) := by decide +kernel
theorem d_XNodes_makeElement_4 : decode Y_XNodes_makeElement.2.1 4 = .ok (.iconst (-1), 1) := by decide +kernel
theorem d_XNodes_makeElement_5 : decode Y_XNodes_makeElement.2.1 5 = .ok (.invokevirtual 44, 3) := by decide +kernel
theorem d_XNodes_makeElement_8 : decode Y_XNodes_makeElement.2.1 8 = .ok (.ireturn, 1) := by decide +kernel
def F_XNodes_makeElement (n : Nat) (l0 : Nat) (l1 : Int32) (l2 : Int32) (M : PM) : qO :=
  kO 3 M l0 (
  cI (F_XNodes_put n l0 l1 l2 (-1 : Int32) (-1 : Int32) M) (fun v2 M1 =>
  some (.inl (some (.int v2)), M1)))
set_option maxHeartbeats 4000000 in
set_option maxRecDepth 100000 in
theorem E_XNodes_makeElement {g : qG} {X : qX} {Z : qZ} (hn : 2 ≤ zn Z) (hl : 49 ≤ zl Z) {n : Nat} {l0 : Nat} {l1 : Int32} {l2 : Int32} {M : PM} (h : F_XNodes_makeElement n l0 l1 l2 M = some (zr Z, zf Z)) : EW Y_XNodes_makeElement g X Z 0 [(0, .ref l0), (1, .int l1), (2, .int l2)] [] M := by
  unfold F_XNodes_makeElement at h
  refine ew_aload_n 0 d_XNodes_makeElement_0 rfl rfl ?_
  refine ew_iload_n 1 d_XNodes_makeElement_1 rfl rfl ?_
  refine ew_iload_n 2 d_XNodes_makeElement_2 rfl rfl ?_
  refine ew_iconst (-1) d_XNodes_makeElement_3 (by decide) ?_
  refine ew_iconst (-1) d_XNodes_makeElement_4 (by decide) ?_
  obtain ⟨kM1, h⟩ := kO_inv h
  obtain ⟨v2, M1, hM1, h⟩ := cI_inv h
  refine ew_callV 3 [.int l1, .int l2, .int (-1 : Int32), .int (-1 : Int32)] d_XNodes_makeElement_5 cv_XNodes_44 (T_XNodes_put hM1) kM1 (Nat.le_trans (Nat.le_of_ble_eq_true rfl) hn) (Nat.le_trans (Nat.le_of_ble_eq_true rfl) hl) (Nat.le_of_ble_eq_true rfl) rfl rfl ?_
  obtain ⟨hz, hm⟩ := Prod.mk.inj (Option.some.inj h)
  exact ew_ireturn d_XNodes_makeElement_8 rfl hz.symm hm.symm
theorem T_XNodes_makeElement {n : Nat} {l0 : Nat} {l1 : Int32} {l2 : Int32} {M Mf : PM} {res : qRs} (h : F_XNodes_makeElement n l0 l1 l2 M = some (res, Mf)) : CT Y_XNodes_makeElement 2 49 [.ref l0, .int l1, .int l2] M res Mf :=
  CT_of (by decide) (Nat.le_of_ble_eq_true rfl) (qHd_ne (by decide)) (fun g X ad0 => E_XNodes_makeElement (g := g) (X := X) (Z := (ad0, M, res, Mf, 2, 49)) (Nat.le_refl _) (Nat.le_refl _) h)
theorem d_XCore_addElement_0 : decode Y_XCore_addElement.2.1 0 = .ok (.aload_n 0, 1) := by decide +kernel
theorem d_XCore_addElement_1 : decode Y_XCore_addElement.2.1 1 = .ok (.getfield 14, 3) := by decide +kernel
theorem d_XCore_addElement_4 : decode Y_XCore_addElement.2.1 4 = .ok (.iload_n 1, 1) := by decide +kernel
theorem d_XCore_addElement_5 : decode Y_XCore_addElement.2.1 5 = .ok (.aload_n 0, 1) := by decide +kernel
theorem d_XCore_addElement_6 : decode Y_XCore_addElement.2.1 6 = .ok (.getfield 51, 3) := by decide +kernel
theorem d_XCore_addElement_9 : decode Y_XCore_addElement.2.1 9 = .ok (.invokevirtual 55, 3) := by decide +kernel
theorem d_XCore_addElement_12 : decode Y_XCore_addElement.2.1 12 = .ok (.istore_n 2, 1) := by decide +kernel
theorem d_XCore_addElement_13 : decode Y_XCore_addElement.2.1 13 = .ok (.aload_n 0, 1) := by decide +kernel
theorem d_XCore_addElement_14 : decode Y_XCore_addElement.2.1 14 = .ok (.getfield 23, 3) := by decide +kernel
theorem d_XCore_addElement_17 : decode Y_XCore_addElement.2.1 17 = .ok (.aload_n 0, 1) := by decide +kernel
theorem d_XCore_addElement_18 : decode Y_XCore_addElement.2.1 18 = .ok (.getfield 51, 3) := by decide +kernel
theorem d_XCore_addElement_21 : decode Y_XCore_addElement.2.1 21 = .ok (.iload_n 2, 1) := by decide +kernel
theorem d_XCore_addElement_22 : decode Y_XCore_addElement.2.1 22 = .ok (.iastore, 1) := by decide +kernel
theorem d_XCore_addElement_23 : decode Y_XCore_addElement.2.1 23 = .ok (.aload_n 0, 1) := by decide +kernel
theorem d_XCore_addElement_24 : decode Y_XCore_addElement.2.1 24 = .ok (.getfield 27, 3) := by decide +kernel
theorem d_XCore_addElement_27 : decode Y_XCore_addElement.2.1 27 = .ok (.aload_n 0, 1) := by decide +kernel
theorem d_XCore_addElement_28 : decode Y_XCore_addElement.2.1 28 = .ok (.getfield 51, 3) := by decide +kernel
theorem d_XCore_addElement_31 : decode Y_XCore_addElement.2.1 31 = .ok (.iconst (-1), 1) := by decide +kernel
theorem d_XCore_addElement_32 : decode Y_XCore_addElement.2.1 32 = .ok (.iastore, 1) := by decide +kernel
theorem d_XCore_addElement_33 : decode Y_XCore_addElement.2.1 33 = .ok (.aload_n 0, 1) := by decide +kernel
theorem d_XCore_addElement_34 : decode Y_XCore_addElement.2.1 34 = .ok (.getfield 30, 3) := by decide +kernel
theorem d_XCore_addElement_37 : decode Y_XCore_addElement.2.1 37 = .ok (.aload_n 0, 1) := by decide +kernel
theorem d_XCore_addElement_38 : decode Y_XCore_addElement.2.1 38 = .ok (.getfield 51, 3) := by decide +kernel
theorem d_XCore_addElement_41 : decode Y_XCore_addElement.2.1 41 = .ok (.iconst (-1), 1) := by decide +kernel
theorem d_XCore_addElement_42 : decode Y_XCore_addElement.2.1 42 = .ok (.iastore, 1) := by decide +kernel
theorem d_XCore_addElement_43 : decode Y_XCore_addElement.2.1 43 = .ok (.aload_n 0, 1) := by decide +kernel
theorem d_XCore_addElement_44 : decode Y_XCore_addElement.2.1 44 = .ok (.dup, 1) := by decide +kernel
theorem d_XCore_addElement_45 : decode Y_XCore_addElement.2.1 45 = .ok (.getfield 51, 3) := by decide +kernel
theorem d_XCore_addElement_48 : decode Y_XCore_addElement.2.1 48 = .ok (.iconst 1, 1) := by decide +kernel
theorem d_XCore_addElement_49 : decode Y_XCore_addElement.2.1 49 = .ok (.iadd, 1) := by decide +kernel
theorem d_XCore_addElement_50 : decode Y_XCore_addElement.2.1 50 = .ok (.putfield 51, 3) := by decide +kernel
theorem d_XCore_addElement_53 : decode Y_XCore_addElement.2.1 53 = .ok (.iload_n 2, 1) := by decide +kernel
theorem d_XCore_addElement_54 : decode Y_XCore_addElement.2.1 54 = .ok (.ireturn, 1) := by decide +kernel
def F_XCore_addElement (n : Nat) (l0 : Nat) (l1 : Int32) (M : PM) : qO :=
  gR 2 M l0 0 (fun v1 =>
  gI 2 M l0 6 (fun v2 =>
  kO 3 M v1 (
  cI (F_XNodes_makeElement n v1 l1 v2 M) (fun v4 M3 =>
  gR 2 M3 l0 1 (fun v5 =>
  gI 2 M3 l0 6 (fun v6 =>
  wI M3 v5 v6 v4 (fun M7 =>
  gR 2 M7 l0 2 (fun v8 =>
  gI 2 M7 l0 6 (fun v9 =>
  wI M7 v8 v9 (-1 : Int32) (fun M10 =>
  gR 2 M10 l0 3 (fun v11 =>
  gI 2 M10 l0 6 (fun v12 =>
  wI M10 v11 v12 (-1 : Int32) (fun M13 =>
  gI 2 M13 l0 6 (fun v14 =>
  pF 2 M13 l0 6 (.int (v14 + (1 : Int32))) (fun M15 =>
  some (.inl (some (.int v4)), M15))))))))))))))))
set_option maxHeartbeats 4000000 in
set_option maxRecDepth 100000 in
theorem E_XCore_addElement {g : qG} {X : qX} {Z : qZ} (hn : 3 ≤ zn Z) (hl : 71 ≤ zl Z) {n : Nat} {l0 : Nat} {l1 : Int32} {M : PM} (h : F_XCore_addElement n l0 l1 M = some (zr Z, zf Z)) : EW Y_XCore_addElement g X Z 0 [(0, .ref l0), (1, .int l1)] [] M := by
  unfold F_XCore_addElement at h
  refine ew_aload_n 0 d_XCore_addElement_0 rfl rfl ?_
  obtain ⟨v1, av1, bv1, h⟩ := gR_inv h
  refine ew_gR 2 0 d_XCore_addElement_1 fl_XCore_14 av1 bv1 ?_
  refine ew_iload_n 1 d_XCore_addElement_4 rfl rfl ?_
  refine ew_aload_n 0 d_XCore_addElement_5 rfl rfl ?_
  obtain ⟨v2, av2, bv2, h⟩ := gI_inv h
  refine ew_gI 2 6 d_XCore_addElement_6 fl_XCore_51 av2 bv2 ?_
  obtain ⟨kM3, h⟩ := kO_inv h
  obtain ⟨v4, M3, hM3, h⟩ := cI_inv h
  refine ew_callV 3 [.int l1, .int v2] d_XCore_addElement_9 cv_XCore_55 (T_XNodes_makeElement hM3) kM3 (Nat.le_trans (Nat.le_of_ble_eq_true rfl) hn) (Nat.le_trans (Nat.le_of_ble_eq_true rfl) hl) (Nat.le_of_ble_eq_true rfl) rfl rfl ?_
  refine ew_istore_n (L' := [(0, .ref l0), (1, .int l1), (2, .int v4)]) 2 [1, 2, 0] d_XCore_addElement_12 rfl (by decide) rfl ?_
  refine ew_aload_n 0 d_XCore_addElement_13 rfl rfl ?_
  obtain ⟨v5, av5, bv5, h⟩ := gR_inv h
  refine ew_gR 2 1 d_XCore_addElement_14 fl_XCore_23 av5 bv5 ?_
  refine ew_aload_n 0 d_XCore_addElement_17 rfl rfl ?_
  obtain ⟨v6, av6, bv6, h⟩ := gI_inv h
  refine ew_gI 2 6 d_XCore_addElement_18 fl_XCore_51 av6 bv6 ?_
  refine ew_iload_n 2 d_XCore_addElement_21 rfl rfl ?_
  obtain ⟨M7, aM7, bM7, cM7, eM7, h⟩ := wI_inv h
  refine ew_wI d_XCore_addElement_22 aM7 bM7 cM7 eM7 ?_
  refine ew_aload_n 0 d_XCore_addElement_23 rfl rfl ?_
  obtain ⟨v8, av8, bv8, h⟩ := gR_inv h
  refine ew_gR 2 2 d_XCore_addElement_24 fl_XCore_27 av8 bv8 ?_
  refine ew_aload_n 0 d_XCore_addElement_27 rfl rfl ?_
  obtain ⟨v9, av9, bv9, h⟩ := gI_inv h
  refine ew_gI 2 6 d_XCore_addElement_28 fl_XCore_51 av9 bv9 ?_
  refine ew_iconst (-1) d_XCore_addElement_31 (by decide) ?_
  obtain ⟨M10, aM10, bM10, cM10, eM10, h⟩ := wI_inv h
  refine ew_wI d_XCore_addElement_32 aM10 bM10 cM10 eM10 ?_
  refine ew_aload_n 0 d_XCore_addElement_33 rfl rfl ?_
  obtain ⟨v11, av11, bv11, h⟩ := gR_inv h
  refine ew_gR 2 3 d_XCore_addElement_34 fl_XCore_30 av11 bv11 ?_
  refine ew_aload_n 0 d_XCore_addElement_37 rfl rfl ?_
  obtain ⟨v12, av12, bv12, h⟩ := gI_inv h
  refine ew_gI 2 6 d_XCore_addElement_38 fl_XCore_51 av12 bv12 ?_
  refine ew_iconst (-1) d_XCore_addElement_41 (by decide) ?_
  obtain ⟨M13, aM13, bM13, cM13, eM13, h⟩ := wI_inv h
  refine ew_wI d_XCore_addElement_42 aM13 bM13 cM13 eM13 ?_
  refine ew_aload_n 0 d_XCore_addElement_43 rfl rfl ?_
  refine ew_dup d_XCore_addElement_44 rfl ?_
  obtain ⟨v14, av14, bv14, h⟩ := gI_inv h
  refine ew_gI 2 6 d_XCore_addElement_45 fl_XCore_51 av14 bv14 ?_
  refine ew_iconst (1) d_XCore_addElement_48 (by decide) ?_
  refine ew_iadd d_XCore_addElement_49 ?_
  obtain ⟨M15, aM15, eM15, h⟩ := pF_inv h
  refine ew_pF 2 6 d_XCore_addElement_50 fl_XCore_51 aM15 eM15 (fun ad => ⟨rfl, rfl⟩) ?_
  refine ew_iload_n 2 d_XCore_addElement_53 rfl rfl ?_
  obtain ⟨hz, hm⟩ := Prod.mk.inj (Option.some.inj h)
  exact ew_ireturn d_XCore_addElement_54 rfl hz.symm hm.symm
theorem T_XCore_addElement {n : Nat} {l0 : Nat} {l1 : Int32} {M Mf : PM} {res : qRs} (h : F_XCore_addElement n l0 l1 M = some (res, Mf)) : CT Y_XCore_addElement 3 71 [.ref l0, .int l1] M res Mf :=
  CT_of (by decide) (Nat.le_of_ble_eq_true rfl) (qHd_ne (by decide)) (fun g X ad0 => E_XCore_addElement (g := g) (X := X) (Z := (ad0, M, res, Mf, 3, 71)) (Nat.le_refl _) (Nat.le_refl _) h)
theorem d_XCore_tellNext_0 : decode Y_XCore_tellNext.2.1 0 = .ok (.aload_n 0, 1) := by decide +kernel
theorem d_XCore_tellNext_1 : decode Y_XCore_tellNext.2.1 1 = .ok (.getfield 27, 3) := by decide +kernel
theorem d_XCore_tellNext_4 : decode Y_XCore_tellNext.2.1 4 = .ok (.iload_n 1, 1) := by decide +kernel
theorem d_XCore_tellNext_5 : decode Y_XCore_tellNext.2.1 5 = .ok (.iaload, 1) := by decide +kernel
theorem d_XCore_tellNext_6 : decode Y_XCore_tellNext.2.1 6 = .ok (.iconst (-1), 1) := by decide +kernel
theorem d_XCore_tellNext_7 : decode Y_XCore_tellNext.2.1 7 = .ok (.if_icmp .eq (7), 3) := by decide +kernel
theorem d_XCore_tellNext_10 : decode Y_XCore_tellNext.2.1 10 = .ok (.iconst 1, 1) := by decide +kernel
theorem d_XCore_tellNext_11 : decode Y_XCore_tellNext.2.1 11 = .ok (.goto (4), 3) := by decide +kernel
theorem d_XCore_tellNext_14 : decode Y_XCore_tellNext.2.1 14 = .ok (.iconst 0, 1) := by decide +kernel
theorem d_XCore_tellNext_15 : decode Y_XCore_tellNext.2.1 15 = .ok (.istore_n 3, 1) := by decide +kernel
theorem d_XCore_tellNext_16 : decode Y_XCore_tellNext.2.1 16 = .ok (.aload_n 0, 1) := by decide +kernel
theorem d_XCore_tellNext_17 : decode Y_XCore_tellNext.2.1 17 = .ok (.getfield 27, 3) := by decide +kernel
theorem d_XCore_tellNext_20 : decode Y_XCore_tellNext.2.1 20 = .ok (.iload_n 1, 1) := by decide +kernel
theorem d_XCore_tellNext_21 : decode Y_XCore_tellNext.2.1 21 = .ok (.iload_n 2, 1) := by decide +kernel
theorem d_XCore_tellNext_22 : decode Y_XCore_tellNext.2.1 22 = .ok (.iastore, 1) := by decide +kernel
theorem d_XCore_tellNext_23 : decode Y_XCore_tellNext.2.1 23 = .ok (.iload_n 3, 1) := by decide +kernel
theorem d_XCore_tellNext_24 : decode Y_XCore_tellNext.2.1 24 = .ok (.ireturn, 1) := by decide +kernel
def F_XCore_tellNext_15 (n : Nat) (l0 : Nat) (l1 : Int32) (l2 : Int32) (s0 : Int32) (M : PM) : qO :=
  gR 2 M l0 2 (fun v1 =>
  wI M v1 l1 l2 (fun M2 =>
  rZ s0 M2))
set_option maxHeartbeats 4000000 in
set_option maxRecDepth 100000 in
theorem E_XCore_tellNext_15 {g : qG} {X : qX} {Z : qZ} (hn : 0 ≤ zn Z) (hl : 0 ≤ zl Z) {n : Nat} {l0 : Nat} {l1 : Int32} {l2 : Int32} {s0 : Int32} {M : PM} (h : F_XCore_tellNext_15 n l0 l1 l2 s0 M = some (zr Z, zf Z)) : EW Y_XCore_tellNext g X Z 15 [(0, .ref l0), (1, .int l1), (2, .int l2)] [.int s0] M := by
  unfold F_XCore_tellNext_15 at h
  refine ew_istore_n (L' := [(0, .ref l0), (1, .int l1), (2, .int l2), (3, .int s0)]) 3 [1, 2, 3, 0] d_XCore_tellNext_15 rfl (by decide) rfl ?_
  refine ew_aload_n 0 d_XCore_tellNext_16 rfl rfl ?_
  obtain ⟨v1, av1, bv1, h⟩ := gR_inv h
  refine ew_gR 2 2 d_XCore_tellNext_17 fl_XCore_27 av1 bv1 ?_
  refine ew_iload_n 1 d_XCore_tellNext_20 rfl rfl ?_
  refine ew_iload_n 2 d_XCore_tellNext_21 rfl rfl ?_
  obtain ⟨M2, aM2, bM2, cM2, eM2, h⟩ := wI_inv h
  refine ew_wI d_XCore_tellNext_22 aM2 bM2 cM2 eM2 ?_
  refine ew_iload_n 3 d_XCore_tellNext_23 rfl rfl ?_
  obtain ⟨hb, h⟩ := rZ_inv h
  obtain ⟨hz, hm⟩ := Prod.mk.inj (Option.some.inj h)
  exact ew_zreturn d_XCore_tellNext_24 rfl hz.symm hm.symm hb
def F_XCore_tellNext (n : Nat) (l0 : Nat) (l1 : Int32) (l2 : Int32) (M : PM) : qO :=
  gR 2 M l0 2 (fun v1 =>
  lI M v1 l1 (fun v2 =>
  if v2 = (-1 : Int32) then
    F_XCore_tellNext_15 n l0 l1 l2 (0 : Int32) M
  else
    F_XCore_tellNext_15 n l0 l1 l2 (1 : Int32) M))
set_option maxHeartbeats 4000000 in
set_option maxRecDepth 100000 in
theorem E_XCore_tellNext {g : qG} {X : qX} {Z : qZ} (hn : 0 ≤ zn Z) (hl : 0 ≤ zl Z) {n : Nat} {l0 : Nat} {l1 : Int32} {l2 : Int32} {M : PM} (h : F_XCore_tellNext n l0 l1 l2 M = some (zr Z, zf Z)) : EW Y_XCore_tellNext g X Z 0 [(0, .ref l0), (1, .int l1), (2, .int l2)] [] M := by
  unfold F_XCore_tellNext at h
  refine ew_aload_n 0 d_XCore_tellNext_0 rfl rfl ?_
  obtain ⟨v1, av1, bv1, h⟩ := gR_inv h
  refine ew_gR 2 2 d_XCore_tellNext_1 fl_XCore_27 av1 bv1 ?_
  refine ew_iload_n 1 d_XCore_tellNext_4 rfl rfl ?_
  obtain ⟨v2, av2, bv2, cv2, ev2, h⟩ := lI_inv h
  refine ew_lI d_XCore_tellNext_5 av2 bv2 cv2 ev2 ?_
  refine ew_iconst (-1) d_XCore_tellNext_6 (by decide) ?_
  refine ew_icmp_eq 14 d_XCore_tellNext_7 (by decide) (fun c3 => ?_) (fun c3 => ?_)
  · rw [if_pos c3] at h
    refine ew_iconst (0) d_XCore_tellNext_14 (by decide) ?_
    exact E_XCore_tellNext_15 hn hl h
  · rw [if_neg c3] at h
    refine ew_iconst (1) d_XCore_tellNext_10 (by decide) ?_
    refine ew_goto 15 d_XCore_tellNext_11 (by decide) ?_
    exact E_XCore_tellNext_15 hn hl h
theorem T_XCore_tellNext {n : Nat} {l0 : Nat} {l1 : Int32} {l2 : Int32} {M Mf : PM} {res : qRs} (h : F_XCore_tellNext n l0 l1 l2 M = some (res, Mf)) : CT Y_XCore_tellNext 0 0 [.ref l0, .int l1, .int l2] M res Mf :=
  CT_of (by decide) (Nat.le_of_ble_eq_true rfl) (qHd_ne (by decide)) (fun g X ad0 => E_XCore_tellNext (g := g) (X := X) (Z := (ad0, M, res, Mf, 0, 0)) (Nat.le_refl _) (Nat.le_refl _) h)
theorem d_XCore_tellPlain_0 : decode Y_XCore_tellPlain.2.1 0 = .ok (.aload_n 0, 1) := by decide +kernel
theorem d_XCore_tellPlain_1 : decode Y_XCore_tellPlain.2.1 1 = .ok (.getfield 30, 3) := by decide +kernel
theorem d_XCore_tellPlain_4 : decode Y_XCore_tellPlain.2.1 4 = .ok (.iload_n 1, 1) := by decide +kernel
theorem d_XCore_tellPlain_5 : decode Y_XCore_tellPlain.2.1 5 = .ok (.iaload, 1) := by decide +kernel
theorem d_XCore_tellPlain_6 : decode Y_XCore_tellPlain.2.1 6 = .ok (.iconst (-1), 1) := by decide +kernel
theorem d_XCore_tellPlain_7 : decode Y_XCore_tellPlain.2.1 7 = .ok (.if_icmp .eq (7), 3) := by decide +kernel
theorem d_XCore_tellPlain_10 : decode Y_XCore_tellPlain.2.1 10 = .ok (.iconst 1, 1) := by decide +kernel
theorem d_XCore_tellPlain_11 : decode Y_XCore_tellPlain.2.1 11 = .ok (.goto (4), 3) := by decide +kernel
theorem d_XCore_tellPlain_14 : decode Y_XCore_tellPlain.2.1 14 = .ok (.iconst 0, 1) := by decide +kernel
theorem d_XCore_tellPlain_15 : decode Y_XCore_tellPlain.2.1 15 = .ok (.istore_n 3, 1) := by decide +kernel
theorem d_XCore_tellPlain_16 : decode Y_XCore_tellPlain.2.1 16 = .ok (.aload_n 0, 1) := by decide +kernel
theorem d_XCore_tellPlain_17 : decode Y_XCore_tellPlain.2.1 17 = .ok (.getfield 30, 3) := by decide +kernel
theorem d_XCore_tellPlain_20 : decode Y_XCore_tellPlain.2.1 20 = .ok (.iload_n 1, 1) := by decide +kernel
theorem d_XCore_tellPlain_21 : decode Y_XCore_tellPlain.2.1 21 = .ok (.iload_n 2, 1) := by decide +kernel
theorem d_XCore_tellPlain_22 : decode Y_XCore_tellPlain.2.1 22 = .ok (.iastore, 1) := by decide +kernel
theorem d_XCore_tellPlain_23 : decode Y_XCore_tellPlain.2.1 23 = .ok (.iload_n 3, 1) := by decide +kernel
theorem d_XCore_tellPlain_24 : decode Y_XCore_tellPlain.2.1 24 = .ok (.ifCond .ne (13), 3) := by decide +kernel
theorem d_XCore_tellPlain_27 : decode Y_XCore_tellPlain.2.1 27 = .ok (.aload_n 0, 1) := by decide +kernel
theorem d_XCore_tellPlain_28 : decode Y_XCore_tellPlain.2.1 28 = .ok (.dup, 1) := by decide +kernel
theorem d_XCore_tellPlain_29 : decode Y_XCore_tellPlain.2.1 29 = .ok (.getfield 59, 3) := by decide +kernel
theorem d_XCore_tellPlain_32 : decode Y_XCore_tellPlain.2.1 32 = .ok (.iconst 1, 1) := by decide +kernel
theorem d_XCore_tellPlain_33 : decode Y_XCore_tellPlain.2.1 33 = .ok (.iadd, 1) := by decide +kernel
theorem d_XCore_tellPlain_34 : decode Y_XCore_tellPlain.2.1 34 = .ok (.putfield 59, 3) := by decide +kernel
theorem d_XCore_tellPlain_37 : decode Y_XCore_tellPlain.2.1 37 = .ok (.iload_n 3, 1) := by decide +kernel
theorem d_XCore_tellPlain_38 : decode Y_XCore_tellPlain.2.1 38 = .ok (.ireturn, 1) := by decide +kernel
def F_XCore_tellPlain_37 (n : Nat) (l3 : Int32) (M : PM) : qO :=
  rZ l3 M
set_option maxHeartbeats 4000000 in
set_option maxRecDepth 100000 in
theorem E_XCore_tellPlain_37 {g : qG} {X : qX} {Z : qZ} (hn : 0 ≤ zn Z) (hl : 0 ≤ zl Z) {n : Nat} {l3 : Int32} {M : PM} (h : F_XCore_tellPlain_37 n l3 M = some (zr Z, zf Z)) : EW Y_XCore_tellPlain g X Z 37 [(3, .int l3)] [] M := by
  unfold F_XCore_tellPlain_37 at h
  refine ew_iload_n 3 d_XCore_tellPlain_37 rfl rfl ?_
  obtain ⟨hb, h⟩ := rZ_inv h
  obtain ⟨hz, hm⟩ := Prod.mk.inj (Option.some.inj h)
  exact ew_zreturn d_XCore_tellPlain_38 rfl hz.symm hm.symm hb
def F_XCore_tellPlain_15 (n : Nat) (l0 : Nat) (l1 : Int32) (l2 : Int32) (s0 : Int32) (M : PM) : qO :=
  gR 2 M l0 3 (fun v1 =>
  wI M v1 l1 l2 (fun M2 =>
  if s0 = (0 : Int32) then
    gI 2 M2 l0 7 (fun v4 =>
    pF 2 M2 l0 7 (.int (v4 + (1 : Int32))) (fun M5 =>
    F_XCore_tellPlain_37 n s0 M5))
  else
    F_XCore_tellPlain_37 n s0 M2))
set_option maxHeartbeats 4000000 in
set_option maxRecDepth 100000 in
theorem E_XCore_tellPlain_15 {g : qG} {X : qX} {Z : qZ} (hn : 0 ≤ zn Z) (hl : 0 ≤ zl Z) {n : Nat} {l0 : Nat} {l1 : Int32} {l2 : Int32} {s0 : Int32} {M : PM} (h : F_XCore_tellPlain_15 n l0 l1 l2 s0 M = some (zr Z, zf Z)) : EW Y_XCore_tellPlain g X Z 15 [(0, .ref l0), (1, .int l1), (2, .int l2)] [.int s0] M := by
  unfold F_XCore_tellPlain_15 at h
  refine ew_istore_n (L' := [(0, .ref l0), (1, .int l1), (2, .int l2), (3, .int s0)]) 3 [1, 2, 3, 0] d_XCore_tellPlain_15 rfl (by decide) rfl ?_
  refine ew_aload_n 0 d_XCore_tellPlain_16 rfl rfl ?_
  obtain ⟨v1, av1, bv1, h⟩ := gR_inv h
  refine ew_gR 2 3 d_XCore_tellPlain_17 fl_XCore_30 av1 bv1 ?_
  refine ew_iload_n 1 d_XCore_tellPlain_20 rfl rfl ?_
  refine ew_iload_n 2 d_XCore_tellPlain_21 rfl rfl ?_
  obtain ⟨M2, aM2, bM2, cM2, eM2, h⟩ := wI_inv h
  refine ew_wI d_XCore_tellPlain_22 aM2 bM2 cM2 eM2 ?_
  refine ew_iload_n 3 d_XCore_tellPlain_23 rfl rfl ?_
  refine ew_if_ne 37 d_XCore_tellPlain_24 (by decide) (fun c3 => ?_) (fun c3 => ?_)
  · rw [if_neg c3] at h
    exact ew_pick (L' := [(3, .int s0)]) [3] rfl (E_XCore_tellPlain_37 hn hl h)
  · rw [if_pos c3] at h
    refine ew_aload_n 0 d_XCore_tellPlain_27 rfl rfl ?_
    refine ew_dup d_XCore_tellPlain_28 rfl ?_
    obtain ⟨v4, av4, bv4, h⟩ := gI_inv h
    refine ew_gI 2 7 d_XCore_tellPlain_29 fl_XCore_59 av4 bv4 ?_
    refine ew_iconst (1) d_XCore_tellPlain_32 (by decide) ?_
    refine ew_iadd d_XCore_tellPlain_33 ?_
    obtain ⟨M5, aM5, eM5, h⟩ := pF_inv h
    refine ew_pF 2 7 d_XCore_tellPlain_34 fl_XCore_59 aM5 eM5 (fun ad => ⟨rfl, rfl⟩) ?_
    exact ew_pick (L' := [(3, .int s0)]) [3] rfl (E_XCore_tellPlain_37 hn hl h)
def F_XCore_tellPlain (n : Nat) (l0 : Nat) (l1 : Int32) (l2 : Int32) (M : PM) : qO :=
  gR 2 M l0 3 (fun v1 =>
  lI M v1 l1 (fun v2 =>
  if v2 = (-1 : Int32) then
    F_XCore_tellPlain_15 n l0 l1 l2 (0 : Int32) M
  else
    F_XCore_tellPlain_15 n l0 l1 l2 (1 : Int32) M))
set_option maxHeartbeats 4000000 in
set_option maxRecDepth 100000 in
theorem E_XCore_tellPlain {g : qG} {X : qX} {Z : qZ} (hn : 0 ≤ zn Z) (hl : 0 ≤ zl Z) {n : Nat} {l0 : Nat} {l1 : Int32} {l2 : Int32} {M : PM} (h : F_XCore_tellPlain n l0 l1 l2 M = some (zr Z, zf Z)) : EW Y_XCore_tellPlain g X Z 0 [(0, .ref l0), (1, .int l1), (2, .int l2)] [] M := by
  unfold F_XCore_tellPlain at h
  refine ew_aload_n 0 d_XCore_tellPlain_0 rfl rfl ?_
  obtain ⟨v1, av1, bv1, h⟩ := gR_inv h
  refine ew_gR 2 3 d_XCore_tellPlain_1 fl_XCore_30 av1 bv1 ?_
  refine ew_iload_n 1 d_XCore_tellPlain_4 rfl rfl ?_
  obtain ⟨v2, av2, bv2, cv2, ev2, h⟩ := lI_inv h
  refine ew_lI d_XCore_tellPlain_5 av2 bv2 cv2 ev2 ?_
  refine ew_iconst (-1) d_XCore_tellPlain_6 (by decide) ?_
  refine ew_icmp_eq 14 d_XCore_tellPlain_7 (by decide) (fun c3 => ?_) (fun c3 => ?_)
  · rw [if_pos c3] at h
    refine ew_iconst (0) d_XCore_tellPlain_14 (by decide) ?_
    exact E_XCore_tellPlain_15 hn hl h
  · rw [if_neg c3] at h
    refine ew_iconst (1) d_XCore_tellPlain_10 (by decide) ?_
    refine ew_goto 15 d_XCore_tellPlain_11 (by decide) ?_
    exact E_XCore_tellPlain_15 hn hl h
theorem T_XCore_tellPlain {n : Nat} {l0 : Nat} {l1 : Int32} {l2 : Int32} {M Mf : PM} {res : qRs} (h : F_XCore_tellPlain n l0 l1 l2 M = some (res, Mf)) : CT Y_XCore_tellPlain 0 0 [.ref l0, .int l1, .int l2] M res Mf :=
  CT_of (by decide) (Nat.le_of_ble_eq_true rfl) (qHd_ne (by decide)) (fun g X ad0 => E_XCore_tellPlain (g := g) (X := X) (Z := (ad0, M, res, Mf, 0, 0)) (Nat.le_refl _) (Nat.le_refl _) h)
theorem d_XCore_addInvariant_0 : decode Y_XCore_addInvariant.2.1 0 = .ok (.aload_n 0, 1) := by decide +kernel
theorem d_XCore_addInvariant_1 : decode Y_XCore_addInvariant.2.1 1 = .ok (.getfield 33, 3) := by decide +kernel
theorem d_XCore_addInvariant_4 : decode Y_XCore_addInvariant.2.1 4 = .ok (.aload_n 0, 1) := by decide +kernel
theorem d_XCore_addInvariant_5 : decode Y_XCore_addInvariant.2.1 5 = .ok (.getfield 62, 3) := by decide +kernel
theorem d_XCore_addInvariant_8 : decode Y_XCore_addInvariant.2.1 8 = .ok (.iload_n 1, 1) := by decide +kernel
theorem d_XCore_addInvariant_9 : decode Y_XCore_addInvariant.2.1 9 = .ok (.iastore, 1) := by decide +kernel
theorem d_XCore_addInvariant_10 : decode Y_XCore_addInvariant.2.1 10 = .ok (.aload_n 0, 1) := by decide +kernel
theorem d_XCore_addInvariant_11 : decode Y_XCore_addInvariant.2.1 11 = .ok (.dup, 1) := by decide +kernel
theorem d_XCore_addInvariant_12 : decode Y_XCore_addInvariant.2.1 12 = .ok (.getfield 62, 3) := by decide +kernel
theorem d_XCore_addInvariant_15 : decode Y_XCore_addInvariant.2.1 15 = .ok (.iconst 1, 1) := by decide +kernel
theorem d_XCore_addInvariant_16 : decode Y_XCore_addInvariant.2.1 16 = .ok (.iadd, 1) := by decide +kernel
theorem d_XCore_addInvariant_17 : decode Y_XCore_addInvariant.2.1 17 = .ok (.putfield 62, 3) := by decide +kernel
theorem d_XCore_addInvariant_20 : decode Y_XCore_addInvariant.2.1 20 = .ok (.aload_n 0, 1) := by decide +kernel
theorem d_XCore_addInvariant_21 : decode Y_XCore_addInvariant.2.1 21 = .ok (.getfield 62, 3) := by decide +kernel
theorem d_XCore_addInvariant_24 : decode Y_XCore_addInvariant.2.1 24 = .ok (.iconst 1, 1) := by decide +kernel
theorem d_XCore_addInvariant_25 : decode Y_XCore_addInvariant.2.1 25 = .ok (.isub, 1) := by decide +kernel
theorem d_XCore_addInvariant_26 : decode Y_XCore_addInvariant.2.1 26 = .ok (.ireturn, 1) := by decide +kernel
def F_XCore_addInvariant (n : Nat) (l0 : Nat) (l1 : Int32) (M : PM) : qO :=
  gR 2 M l0 4 (fun v1 =>
  gI 2 M l0 8 (fun v2 =>
  wI M v1 v2 l1 (fun M3 =>
  gI 2 M3 l0 8 (fun v4 =>
  pF 2 M3 l0 8 (.int (v4 + (1 : Int32))) (fun M5 =>
  gI 2 M5 l0 8 (fun v6 =>
  some (.inl (some (.int (v6 - (1 : Int32)))), M5)))))))
set_option maxHeartbeats 4000000 in
set_option maxRecDepth 100000 in
theorem E_XCore_addInvariant {g : qG} {X : qX} {Z : qZ} (hn : 0 ≤ zn Z) (hl : 0 ≤ zl Z) {n : Nat} {l0 : Nat} {l1 : Int32} {M : PM} (h : F_XCore_addInvariant n l0 l1 M = some (zr Z, zf Z)) : EW Y_XCore_addInvariant g X Z 0 [(0, .ref l0), (1, .int l1)] [] M := by
  unfold F_XCore_addInvariant at h
  refine ew_aload_n 0 d_XCore_addInvariant_0 rfl rfl ?_
  obtain ⟨v1, av1, bv1, h⟩ := gR_inv h
  refine ew_gR 2 4 d_XCore_addInvariant_1 fl_XCore_33 av1 bv1 ?_
  refine ew_aload_n 0 d_XCore_addInvariant_4 rfl rfl ?_
  obtain ⟨v2, av2, bv2, h⟩ := gI_inv h
  refine ew_gI 2 8 d_XCore_addInvariant_5 fl_XCore_62 av2 bv2 ?_
  refine ew_iload_n 1 d_XCore_addInvariant_8 rfl rfl ?_
  obtain ⟨M3, aM3, bM3, cM3, eM3, h⟩ := wI_inv h
  refine ew_wI d_XCore_addInvariant_9 aM3 bM3 cM3 eM3 ?_
  refine ew_aload_n 0 d_XCore_addInvariant_10 rfl rfl ?_
  refine ew_dup d_XCore_addInvariant_11 rfl ?_
  obtain ⟨v4, av4, bv4, h⟩ := gI_inv h
  refine ew_gI 2 8 d_XCore_addInvariant_12 fl_XCore_62 av4 bv4 ?_
  refine ew_iconst (1) d_XCore_addInvariant_15 (by decide) ?_
  refine ew_iadd d_XCore_addInvariant_16 ?_
  obtain ⟨M5, aM5, eM5, h⟩ := pF_inv h
  refine ew_pF 2 8 d_XCore_addInvariant_17 fl_XCore_62 aM5 eM5 (fun ad => ⟨rfl, rfl⟩) ?_
  refine ew_aload_n 0 d_XCore_addInvariant_20 rfl rfl ?_
  obtain ⟨v6, av6, bv6, h⟩ := gI_inv h
  refine ew_gI 2 8 d_XCore_addInvariant_21 fl_XCore_62 av6 bv6 ?_
  refine ew_iconst (1) d_XCore_addInvariant_24 (by decide) ?_
  refine ew_isub d_XCore_addInvariant_25 ?_
  obtain ⟨hz, hm⟩ := Prod.mk.inj (Option.some.inj h)
  exact ew_ireturn d_XCore_addInvariant_26 rfl hz.symm hm.symm
theorem T_XCore_addInvariant {n : Nat} {l0 : Nat} {l1 : Int32} {M Mf : PM} {res : qRs} (h : F_XCore_addInvariant n l0 l1 M = some (res, Mf)) : CT Y_XCore_addInvariant 0 0 [.ref l0, .int l1] M res Mf :=
  CT_of (by decide) (Nat.le_of_ble_eq_true rfl) (qHd_ne (by decide)) (fun g X ad0 => E_XCore_addInvariant (g := g) (X := X) (Z := (ad0, M, res, Mf, 0, 0)) (Nat.le_refl _) (Nat.le_refl _) h)
theorem d_XNodes_makeApplication_0 : decode Y_XNodes_makeApplication.2.1 0 = .ok (.aload_n 0, 1) := by decide +kernel
theorem d_XNodes_makeApplication_1 : decode Y_XNodes_makeApplication.2.1 1 = .ok (.iconst 5, 1) := by decide +kernel
theorem d_XNodes_makeApplication_2 : decode Y_XNodes_makeApplication.2.1 2 = .ok (.iload_n 2, 1) := by decide +kernel
theorem d_XNodes_makeApplication_3 : decode Y_XNodes_makeApplication.2.1 3 = .ok (.iload_n 3, 1) := by decide +kernel
theorem d_XNodes_makeApplication_4 : decode Y_XNodes_makeApplication.2.1 4 = .ok (.iload_n 1, 1) := by decide +kernel
theorem d_XNodes_makeApplication_5 : decode Y_XNodes_makeApplication.2.1 5 = .ok (.invokevirtual 44, 3) := by decide +kernel
theorem d_XNodes_makeApplication_8 : decode Y_XNodes_makeApplication.2.1 8 = .ok (.ireturn, 1) := by decide +kernel
def F_XNodes_makeApplication (n : Nat) (l0 : Nat) (l1 : Int32) (l2 : Int32) (l3 : Int32) (M : PM) : qO :=
  kO 3 M l0 (
  cI (F_XNodes_put n l0 (5 : Int32) l2 l3 l1 M) (fun v2 M1 =>
  some (.inl (some (.int v2)), M1)))
set_option maxHeartbeats 4000000 in
set_option maxRecDepth 100000 in
theorem E_XNodes_makeApplication {g : qG} {X : qX} {Z : qZ} (hn : 2 ≤ zn Z) (hl : 49 ≤ zl Z) {n : Nat} {l0 : Nat} {l1 : Int32} {l2 : Int32} {l3 : Int32} {M : PM} (h : F_XNodes_makeApplication n l0 l1 l2 l3 M = some (zr Z, zf Z)) : EW Y_XNodes_makeApplication g X Z 0 [(0, .ref l0), (1, .int l1), (2, .int l2), (3, .int l3)] [] M := by
  unfold F_XNodes_makeApplication at h
  refine ew_aload_n 0 d_XNodes_makeApplication_0 rfl rfl ?_
  refine ew_iconst (5) d_XNodes_makeApplication_1 (by decide) ?_
  refine ew_iload_n 2 d_XNodes_makeApplication_2 rfl rfl ?_
  refine ew_iload_n 3 d_XNodes_makeApplication_3 rfl rfl ?_
  refine ew_iload_n 1 d_XNodes_makeApplication_4 rfl rfl ?_
  obtain ⟨kM1, h⟩ := kO_inv h
  obtain ⟨v2, M1, hM1, h⟩ := cI_inv h
  refine ew_callV 3 [.int (5 : Int32), .int l2, .int l3, .int l1] d_XNodes_makeApplication_5 cv_XNodes_44 (T_XNodes_put hM1) kM1 (Nat.le_trans (Nat.le_of_ble_eq_true rfl) hn) (Nat.le_trans (Nat.le_of_ble_eq_true rfl) hl) (Nat.le_of_ble_eq_true rfl) rfl rfl ?_
  obtain ⟨hz, hm⟩ := Prod.mk.inj (Option.some.inj h)
  exact ew_ireturn d_XNodes_makeApplication_8 rfl hz.symm hm.symm
theorem T_XNodes_makeApplication {n : Nat} {l0 : Nat} {l1 : Int32} {l2 : Int32} {l3 : Int32} {M Mf : PM} {res : qRs} (h : F_XNodes_makeApplication n l0 l1 l2 l3 M = some (res, Mf)) : CT Y_XNodes_makeApplication 2 49 [.ref l0, .int l1, .int l2, .int l3] M res Mf :=
  CT_of (by decide) (Nat.le_of_ble_eq_true rfl) (qHd_ne (by decide)) (fun g X ad0 => E_XNodes_makeApplication (g := g) (X := X) (Z := (ad0, M, res, Mf, 2, 49)) (Nat.le_refl _) (Nat.le_refl _) h)
theorem d_XNodes_makeEquality_0 : decode Y_XNodes_makeEquality.2.1 0 = .ok (.iload_n 1, 1) := by decide +kernel
theorem d_XNodes_makeEquality_1 : decode Y_XNodes_makeEquality.2.1 1 = .ok (.iload_n 2, 1) := by decide +kernel
theorem d_XNodes_makeEquality_2 : decode Y_XNodes_makeEquality.2.1 2 = .ok (.if_icmp .ne (5), 3) := by decide +kernel
theorem d_XNodes_makeEquality_5 : decode Y_XNodes_makeEquality.2.1 5 = .ok (.iconst 1, 1) := by decide +kernel
theorem d_XNodes_makeEquality_6 : decode Y_XNodes_makeEquality.2.1 6 = .ok (.ireturn, 1) := by decide +kernel
theorem d_XNodes_makeEquality_7 : decode Y_XNodes_makeEquality.2.1 7 = .ok (.aload_n 0, 1) := by decide +kernel
theorem d_XNodes_makeEquality_8 : decode Y_XNodes_makeEquality.2.1 8 = .ok (.bipush (6), 2) := by decide +kernel
theorem d_XNodes_makeEquality_10 : decode Y_XNodes_makeEquality.2.1 10 = .ok (.iload_n 1, 1) := by decide +kernel
theorem d_XNodes_makeEquality_11 : decode Y_XNodes_makeEquality.2.1 11 = .ok (.iload_n 2, 1) := by decide +kernel
theorem d_XNodes_makeEquality_12 : decode Y_XNodes_makeEquality.2.1 12 = .ok (.invokestatic 48, 3) := by decide +kernel
theorem d_XNodes_makeEquality_15 : decode Y_XNodes_makeEquality.2.1 15 = .ok (.iload_n 1, 1) := by decide +kernel
theorem d_XNodes_makeEquality_16 : decode Y_XNodes_makeEquality.2.1 16 = .ok (.iload_n 2, 1) := by decide +kernel
theorem d_XNodes_makeEquality_17 : decode Y_XNodes_makeEquality.2.1 17 = .ok (.invokestatic 54, 3) := by decide +kernel
theorem d_XNodes_makeEquality_20 : decode Y_XNodes_makeEquality.2.1 20 = .ok (.iconst (-1), 1) := by decide +kernel
theorem d_XNodes_makeEquality_21 : decode Y_XNodes_makeEquality.2.1 21 = .ok (.invokevirtual 44, 3) := by decide +kernel
theorem d_XNodes_makeEquality_24 : decode Y_XNodes_makeEquality.2.1 24 = .ok (.ireturn, 1) := by decide +kernel
def F_XNodes_makeEquality (n : Nat) (l0 : Nat) (l1 : Int32) (l2 : Int32) (M : PM) : qO :=
  if l1 = l2 then
    some (.inl (some (.int (1 : Int32))), M)
  else
    bI (if l2 < l1 then l2 else l1) (fun v2 =>
    bI (if l1 < l2 then l2 else l1) (fun v3 =>
    kO 3 M l0 (
    cI (F_XNodes_put n l0 (6 : Int32) v2 v3 (-1 : Int32) M) (fun v5 M4 =>
    some (.inl (some (.int v5)), M4)))))
set_option maxHeartbeats 4000000 in
set_option maxRecDepth 100000 in
theorem E_XNodes_makeEquality {g : qG} {X : qX} {Z : qZ} (hn : 2 ≤ zn Z) (hl : 49 ≤ zl Z) {n : Nat} {l0 : Nat} {l1 : Int32} {l2 : Int32} {M : PM} (h : F_XNodes_makeEquality n l0 l1 l2 M = some (zr Z, zf Z)) : EW Y_XNodes_makeEquality g X Z 0 [(0, .ref l0), (1, .int l1), (2, .int l2)] [] M := by
  unfold F_XNodes_makeEquality at h
  refine ew_iload_n 1 d_XNodes_makeEquality_0 rfl rfl ?_
  refine ew_iload_n 2 d_XNodes_makeEquality_1 rfl rfl ?_
  refine ew_icmp_ne 7 d_XNodes_makeEquality_2 (by decide) (fun c1 => ?_) (fun c1 => ?_)
  · rw [if_neg c1] at h
    refine ew_aload_n 0 d_XNodes_makeEquality_7 rfl rfl ?_
    refine ew_bipush (6) d_XNodes_makeEquality_8 (by decide +kernel) ?_
    refine ew_iload_n 1 d_XNodes_makeEquality_10 rfl rfl ?_
    refine ew_iload_n 2 d_XNodes_makeEquality_11 rfl rfl ?_
    obtain ⟨v2, ev2, h⟩ := bI_inv h
    refine ew_mmin d_XNodes_makeEquality_12 ma_XNodes_48 ev2 (Nat.le_trans (Nat.le_of_ble_eq_true rfl) hn) (Nat.le_trans (Nat.le_of_ble_eq_true rfl) hl) ?_
    refine ew_iload_n 1 d_XNodes_makeEquality_15 rfl rfl ?_
    refine ew_iload_n 2 d_XNodes_makeEquality_16 rfl rfl ?_
    obtain ⟨v3, ev3, h⟩ := bI_inv h
    refine ew_mmax d_XNodes_makeEquality_17 ma_XNodes_54 ev3 (Nat.le_trans (Nat.le_of_ble_eq_true rfl) hn) (Nat.le_trans (Nat.le_of_ble_eq_true rfl) hl) ?_
    refine ew_iconst (-1) d_XNodes_makeEquality_20 (by decide) ?_
    obtain ⟨kM4, h⟩ := kO_inv h
    obtain ⟨v5, M4, hM4, h⟩ := cI_inv h
    refine ew_callV 3 [.int (6 : Int32), .int v2, .int v3, .int (-1 : Int32)] d_XNodes_makeEquality_21 cv_XNodes_44 (T_XNodes_put hM4) kM4 (Nat.le_trans (Nat.le_of_ble_eq_true rfl) hn) (Nat.le_trans (Nat.le_of_ble_eq_true rfl) hl) (Nat.le_of_ble_eq_true rfl) rfl rfl ?_
    obtain ⟨hz, hm⟩ := Prod.mk.inj (Option.some.inj h)
    exact ew_ireturn d_XNodes_makeEquality_24 rfl hz.symm hm.symm
  · rw [if_pos c1] at h
    refine ew_iconst (1) d_XNodes_makeEquality_5 (by decide) ?_
    obtain ⟨hz, hm⟩ := Prod.mk.inj (Option.some.inj h)
    exact ew_ireturn d_XNodes_makeEquality_6 rfl hz.symm hm.symm
theorem T_XNodes_makeEquality {n : Nat} {l0 : Nat} {l1 : Int32} {l2 : Int32} {M Mf : PM} {res : qRs} (h : F_XNodes_makeEquality n l0 l1 l2 M = some (res, Mf)) : CT Y_XNodes_makeEquality 2 49 [.ref l0, .int l1, .int l2] M res Mf :=
  CT_of (by decide) (Nat.le_of_ble_eq_true rfl) (qHd_ne (by decide)) (fun g X ad0 => E_XNodes_makeEquality (g := g) (X := X) (Z := (ad0, M, res, Mf, 2, 49)) (Nat.le_refl _) (Nat.le_refl _) h)
theorem d_XNodes_makeNot_0 : decode Y_XNodes_makeNot.2.1 0 = .ok (.iload_n 1, 1) := by decide +kernel
theorem d_XNodes_makeNot_1 : decode Y_XNodes_makeNot.2.1 1 = .ok (.iconst 1, 1) := by decide +kernel
theorem d_XNodes_makeNot_2 : decode Y_XNodes_makeNot.2.1 2 = .ok (.if_icmp .ne (5), 3) := by decide +kernel
theorem d_XNodes_makeNot_5 : decode Y_XNodes_makeNot.2.1 5 = .ok (.iconst 0, 1) := by decide +kernel
theorem d_XNodes_makeNot_6 : decode Y_XNodes_makeNot.2.1 6 = .ok (.ireturn, 1) := by decide +kernel
theorem d_XNodes_makeNot_7 : decode Y_XNodes_makeNot.2.1 7 = .ok (.iload_n 1, 1) := by decide +kernel
theorem d_XNodes_makeNot_8 : decode Y_XNodes_makeNot.2.1 8 = .ok (.ifCond .ne (5), 3) := by decide +kernel
theorem d_XNodes_makeNot_11 : decode Y_XNodes_makeNot.2.1 11 = .ok (.iconst 1, 1) := by decide +kernel
theorem d_XNodes_makeNot_12 : decode Y_XNodes_makeNot.2.1 12 = .ok (.ireturn, 1) := by decide +kernel
theorem d_XNodes_makeNot_13 : decode Y_XNodes_makeNot.2.1 13 = .ok (.aload_n 0, 1) := by decide +kernel
theorem d_XNodes_makeNot_14 : decode Y_XNodes_makeNot.2.1 14 = .ok (.iload_n 1, 1) := by decide +kernel
theorem d_XNodes_makeNot_15 : decode Y_XNodes_makeNot.2.1 15 = .ok (.invokevirtual 57, 3) := by decide +kernel
theorem d_XNodes_makeNot_18 : decode Y_XNodes_makeNot.2.1 18 = .ok (.ifCond .eq (21), 3) := by decide +kernel
theorem d_XNodes_makeNot_21 : decode Y_XNodes_makeNot.2.1 21 = .ok (.aload_n 0, 1) := by decide +kernel
theorem d_XNodes_makeNot_22 : decode Y_XNodes_makeNot.2.1 22 = .ok (.getfield 9, 3) := by decide +kernel
theorem d_XNodes_makeNot_25 : decode Y_XNodes_makeNot.2.1 25 = .ok (.iload_n 1, 1) := by decide +kernel
theorem d_XNodes_makeNot_26 : decode Y_XNodes_makeNot.2.1 26 = .ok (.iaload, 1) := by decide +kernel
theorem d_XNodes_makeNot_27 : decode Y_XNodes_makeNot.2.1 27 = .ok (.bipush (7), 2) := by decide +kernel
theorem d_XNodes_makeNot_29 : decode Y_XNodes_makeNot.2.1 29 = .ok (.if_icmp .ne (10), 3) := by decide +kernel
theorem d_XNodes_makeNot_32 : decode Y_XNodes_makeNot.2.1 32 = .ok (.aload_n 0, 1) := by decide +kernel
theorem d_XNodes_makeNot_33 : decode Y_XNodes_makeNot.2.1 33 = .ok (.getfield 15, 3) := by decide +kernel
theorem d_XNodes_makeNot_36 : decode Y_XNodes_makeNot.2.1 36 = .ok (.iload_n 1, 1) := by decide +kernel
theorem d_XNodes_makeNot_37 : decode Y_XNodes_makeNot.2.1 37 = .ok (.iaload, 1) := by decide +kernel
theorem d_XNodes_makeNot_38 : decode Y_XNodes_makeNot.2.1 38 = .ok (.ireturn, 1) := by decide +kernel
theorem d_XNodes_makeNot_39 : decode Y_XNodes_makeNot.2.1 39 = .ok (.aload_n 0, 1) := by decide +kernel
theorem d_XNodes_makeNot_40 : decode Y_XNodes_makeNot.2.1 40 = .ok (.bipush (7), 2) := by decide +kernel
theorem d_XNodes_makeNot_42 : decode Y_XNodes_makeNot.2.1 42 = .ok (.iload_n 1, 1) := by decide +kernel
theorem d_XNodes_makeNot_43 : decode Y_XNodes_makeNot.2.1 43 = .ok (.iconst (-1), 1) := by decide +kernel
theorem d_XNodes_makeNot_44 : decode Y_XNodes_makeNot.2.1 44 = .ok (.iconst (-1), 1) := by decide +kernel
theorem d_XNodes_makeNot_45 : decode Y_XNodes_makeNot.2.1 45 = .ok (.invokevirtual 44, 3) := by decide +kernel
theorem d_XNodes_makeNot_48 : decode Y_XNodes_makeNot.2.1 48 = .ok (.ireturn, 1) := by decide +kernel
def F_XNodes_makeNot_39 (n : Nat) (l0 : Nat) (l1 : Int32) (M : PM) : qO :=
  kO 3 M l0 (
  cI (F_XNodes_put n l0 (7 : Int32) l1 (-1 : Int32) (-1 : Int32) M) (fun v2 M1 =>
  some (.inl (some (.int v2)), M1)))
set_option maxHeartbeats 4000000 in
set_option maxRecDepth 100000 in
theorem E_XNodes_makeNot_39 {g : qG} {X : qX} {Z : qZ} (hn : 2 ≤ zn Z) (hl : 49 ≤ zl Z) {n : Nat} {l0 : Nat} {l1 : Int32} {M : PM} (h : F_XNodes_makeNot_39 n l0 l1 M = some (zr Z, zf Z)) : EW Y_XNodes_makeNot g X Z 39 [(0, .ref l0), (1, .int l1)] [] M := by
  unfold F_XNodes_makeNot_39 at h
  refine ew_aload_n 0 d_XNodes_makeNot_39 rfl rfl ?_
  refine ew_bipush (7) d_XNodes_makeNot_40 (by decide +kernel) ?_
  refine ew_iload_n 1 d_XNodes_makeNot_42 rfl rfl ?_
  refine ew_iconst (-1) d_XNodes_makeNot_43 (by decide) ?_
  refine ew_iconst (-1) d_XNodes_makeNot_44 (by decide) ?_
  obtain ⟨kM1, h⟩ := kO_inv h
  obtain ⟨v2, M1, hM1, h⟩ := cI_inv h
  refine ew_callV 3 [.int (7 : Int32), .int l1, .int (-1 : Int32), .int (-1 : Int32)] d_XNodes_makeNot_45 cv_XNodes_44 (T_XNodes_put hM1) kM1 (Nat.le_trans (Nat.le_of_ble_eq_true rfl) hn) (Nat.le_trans (Nat.le_of_ble_eq_true rfl) hl) (Nat.le_of_ble_eq_true rfl) rfl rfl ?_
  obtain ⟨hz, hm⟩ := Prod.mk.inj (Option.some.inj h)
  exact ew_ireturn d_XNodes_makeNot_48 rfl hz.symm hm.symm
def F_XNodes_makeNot (n : Nat) (l0 : Nat) (l1 : Int32) (M : PM) : qO :=
  if l1 = (1 : Int32) then
    some (.inl (some (.int (0 : Int32))), M)
  else
    if l1 = (0 : Int32) then
      some (.inl (some (.int (1 : Int32))), M)
    else
      kO 3 M l0 (
      cI (F_XNodes_has n l0 l1 M) (fun v4 M3 =>
      if v4 = (0 : Int32) then
        F_XNodes_makeNot_39 n l0 l1 M3
      else
        gR 3 M3 l0 0 (fun v6 =>
        lI M3 v6 l1 (fun v7 =>
        if v7 = (7 : Int32) then
          gR 3 M3 l0 1 (fun v9 =>
          lI M3 v9 l1 (fun v10 =>
          some (.inl (some (.int v10)), M3)))
        else
          F_XNodes_makeNot_39 n l0 l1 M3))))
set_option maxHeartbeats 4000000 in
set_option maxRecDepth 100000 in
theorem E_XNodes_makeNot {g : qG} {X : qX} {Z : qZ} (hn : 2 ≤ zn Z) (hl : 49 ≤ zl Z) {n : Nat} {l0 : Nat} {l1 : Int32} {M : PM} (h : F_XNodes_makeNot n l0 l1 M = some (zr Z, zf Z)) : EW Y_XNodes_makeNot g X Z 0 [(0, .ref l0), (1, .int l1)] [] M := by
  unfold F_XNodes_makeNot at h
  refine ew_iload_n 1 d_XNodes_makeNot_0 rfl rfl ?_
  refine ew_iconst (1) d_XNodes_makeNot_1 (by decide) ?_
  refine ew_icmp_ne 7 d_XNodes_makeNot_2 (by decide) (fun c1 => ?_) (fun c1 => ?_)
  · rw [if_neg c1] at h
    refine ew_iload_n 1 d_XNodes_makeNot_7 rfl rfl ?_
    refine ew_if_ne 13 d_XNodes_makeNot_8 (by decide) (fun c2 => ?_) (fun c2 => ?_)
    · rw [if_neg c2] at h
      refine ew_aload_n 0 d_XNodes_makeNot_13 rfl rfl ?_
      refine ew_iload_n 1 d_XNodes_makeNot_14 rfl rfl ?_
      obtain ⟨kM3, h⟩ := kO_inv h
      obtain ⟨v4, M3, hM3, h⟩ := cI_inv h
      refine ew_callV 3 [.int l1] d_XNodes_makeNot_15 cv_XNodes_57 (T_XNodes_has hM3) kM3 (Nat.le_trans (Nat.le_of_ble_eq_true rfl) hn) (Nat.le_trans (Nat.le_of_ble_eq_true rfl) hl) (Nat.le_of_ble_eq_true rfl) rfl rfl ?_
      refine ew_if_eq 39 d_XNodes_makeNot_18 (by decide) (fun c5 => ?_) (fun c5 => ?_)
      · rw [if_pos c5] at h
        exact E_XNodes_makeNot_39 hn hl h
      · rw [if_neg c5] at h
        refine ew_aload_n 0 d_XNodes_makeNot_21 rfl rfl ?_
        obtain ⟨v6, av6, bv6, h⟩ := gR_inv h
        refine ew_gR 3 0 d_XNodes_makeNot_22 fl_XNodes_9 av6 bv6 ?_
        refine ew_iload_n 1 d_XNodes_makeNot_25 rfl rfl ?_
        obtain ⟨v7, av7, bv7, cv7, ev7, h⟩ := lI_inv h
        refine ew_lI d_XNodes_makeNot_26 av7 bv7 cv7 ev7 ?_
        refine ew_bipush (7) d_XNodes_makeNot_27 (by decide +kernel) ?_
        refine ew_icmp_ne 39 d_XNodes_makeNot_29 (by decide) (fun c8 => ?_) (fun c8 => ?_)
        · rw [if_neg c8] at h
          exact E_XNodes_makeNot_39 hn hl h
        · rw [if_pos c8] at h
          refine ew_aload_n 0 d_XNodes_makeNot_32 rfl rfl ?_
          obtain ⟨v9, av9, bv9, h⟩ := gR_inv h
          refine ew_gR 3 1 d_XNodes_makeNot_33 fl_XNodes_15 av9 bv9 ?_
          refine ew_iload_n 1 d_XNodes_makeNot_36 rfl rfl ?_
          obtain ⟨v10, av10, bv10, cv10, ev10, h⟩ := lI_inv h
          refine ew_lI d_XNodes_makeNot_37 av10 bv10 cv10 ev10 ?_
          obtain ⟨hz, hm⟩ := Prod.mk.inj (Option.some.inj h)
          exact ew_ireturn d_XNodes_makeNot_38 rfl hz.symm hm.symm
    · rw [if_pos c2] at h
      refine ew_iconst (1) d_XNodes_makeNot_11 (by decide) ?_
      obtain ⟨hz, hm⟩ := Prod.mk.inj (Option.some.inj h)
      exact ew_ireturn d_XNodes_makeNot_12 rfl hz.symm hm.symm
  · rw [if_pos c1] at h
    refine ew_iconst (0) d_XNodes_makeNot_5 (by decide) ?_
    obtain ⟨hz, hm⟩ := Prod.mk.inj (Option.some.inj h)
    exact ew_ireturn d_XNodes_makeNot_6 rfl hz.symm hm.symm
theorem T_XNodes_makeNot {n : Nat} {l0 : Nat} {l1 : Int32} {M Mf : PM} {res : qRs} (h : F_XNodes_makeNot n l0 l1 M = some (res, Mf)) : CT Y_XNodes_makeNot 2 49 [.ref l0, .int l1] M res Mf :=
  CT_of (by decide) (Nat.le_of_ble_eq_true rfl) (qHd_ne (by decide)) (fun g X ad0 => E_XNodes_makeNot (g := g) (X := X) (Z := (ad0, M, res, Mf, 2, 49)) (Nat.le_refl _) (Nat.le_refl _) h)
theorem d_XNodes_makeBoth_0 : decode Y_XNodes_makeBoth.2.1 0 = .ok (.iload_n 1, 1) := by decide +kernel
theorem d_XNodes_makeBoth_1 : decode Y_XNodes_makeBoth.2.1 1 = .ok (.ifCond .eq (7), 3) := by decide +kernel
theorem d_XNodes_makeBoth_4 : decode Y_XNodes_makeBoth.2.1 4 = .ok (.iload_n 2, 1) := by decide +kernel
theorem d_XNodes_makeBoth_5 : decode Y_XNodes_makeBoth.2.1 5 = .ok (.ifCond .ne (5), 3) := by decide +kernel
theorem d_XNodes_makeBoth_8 : decode Y_XNodes_makeBoth.2.1 8 = .ok (.iconst 0, 1) := by decide +kernel
theorem d_XNodes_makeBoth_9 : decode Y_XNodes_makeBoth.2.1 9 = .ok (.ireturn, 1) := by decide +kernel
theorem d_XNodes_makeBoth_10 : decode Y_XNodes_makeBoth.2.1 10 = .ok (.iload_n 1, 1) := by decide +kernel
theorem d_XNodes_makeBoth_11 : decode Y_XNodes_makeBoth.2.1 11 = .ok (.iconst 1, 1) := by decide +kernel
theorem d_XNodes_makeBoth_12 : decode Y_XNodes_makeBoth.2.1 12 = .ok (.if_icmp .eq (8), 3) := by decide +kernel
theorem d_XNodes_makeBoth_15 : decode Y_XNodes_makeBoth.2.1 15 = .ok (.iload_n 1, 1) := by decide +kernel
theorem d_XNodes_makeBoth_16 : decode Y_XNodes_makeBoth.2.1 16 = .ok (.iload_n 2, 1) := by decide +kernel
theorem d_XNodes_makeBoth_17 : decode Y_XNodes_makeBoth.2.1 17 = .ok (.if_icmp .ne (5), 3) := by decide +kernel
theorem d_XNodes_makeBoth_20 : decode Y_XNodes_makeBoth.2.1 20 = .ok (.iload_n 2, 1) := by decide +kernel
theorem d_XNodes_makeBoth_21 : decode Y_XNodes_makeBoth.2.1 21 = .ok (.ireturn, 1) := by decide +kernel
theorem d_XNodes_makeBoth_22 : decode Y_XNodes_makeBoth.2.1 22 = .ok (.iload_n 2, 1) := by decide +kernel
theorem d_XNodes_makeBoth_23 : decode Y_XNodes_makeBoth.2.1 23 = .ok (.iconst 1, 1) := by decide +kernel
theorem d_XNodes_makeBoth_24 : decode Y_XNodes_makeBoth.2.1 24 = .ok (.if_icmp .ne (5), 3) := by decide +kernel
theorem d_XNodes_makeBoth_27 : decode Y_XNodes_makeBoth.2.1 27 = .ok (.iload_n 1, 1) := by decide +kernel
theorem d_XNodes_makeBoth_28 : decode Y_XNodes_makeBoth.2.1 28 = .ok (.ireturn, 1) := by decide +kernel
theorem d_XNodes_makeBoth_29 : decode Y_XNodes_makeBoth.2.1 29 = .ok (.aload_n 0, 1) := by decide +kernel
theorem d_XNodes_makeBoth_30 : decode Y_XNodes_makeBoth.2.1 30 = .ok (.bipush (8), 2) := by decide +kernel
theorem d_XNodes_makeBoth_32 : decode Y_XNodes_makeBoth.2.1 32 = .ok (.iload_n 1, 1) := by decide +kernel
theorem d_XNodes_makeBoth_33 : decode Y_XNodes_makeBoth.2.1 33 = .ok (.iload_n 2, 1) := by decide +kernel
theorem d_XNodes_makeBoth_34 : decode Y_XNodes_makeBoth.2.1 34 = .ok (.invokestatic 48, 3) := by decide +kernel
theorem d_XNodes_makeBoth_37 : decode Y_XNodes_makeBoth.2.1 37 = .ok (.iload_n 1, 1) := by decide +kernel
theorem d_XNodes_makeBoth_38 : decode Y_XNodes_makeBoth.2.1 38 = .ok (.iload_n 2, 1) := by decide +kernel
theorem d_XNodes_makeBoth_39 : decode Y_XNodes_makeBoth.2.1 39 = .ok (.invokestatic 54, 3) := by decide +kernel
theorem d_XNodes_makeBoth_42 : decode Y_XNodes_makeBoth.2.1 42 = .ok (.iconst (-1), 1) := by decide +kernel
theorem d_XNodes_makeBoth_43 : decode Y_XNodes_makeBoth.2.1 43 = .ok (.invokevirtual 44, 3) := by decide +kernel
theorem d_XNodes_makeBoth_46 : decode Y_XNodes_makeBoth.2.1 46 = .ok (.ireturn, 1) := by decide +kernel
def F_XNodes_makeBoth_8 (n : Nat) (M : PM) : qO :=
  some (.inl (some (.int (0 : Int32))), M)
set_option maxHeartbeats 4000000 in
set_option maxRecDepth 100000 in
theorem E_XNodes_makeBoth_8 {g : qG} {X : qX} {Z : qZ} (hn : 2 ≤ zn Z) (hl : 49 ≤ zl Z) {n : Nat} {M : PM} (h : F_XNodes_makeBoth_8 n M = some (zr Z, zf Z)) : EW Y_XNodes_makeBoth g X Z 8 [] [] M := by
  unfold F_XNodes_makeBoth_8 at h
  refine ew_iconst (0) d_XNodes_makeBoth_8 (by decide) ?_
  obtain ⟨hz, hm⟩ := Prod.mk.inj (Option.some.inj h)
  exact ew_ireturn d_XNodes_makeBoth_9 rfl hz.symm hm.symm
def F_XNodes_makeBoth_20 (n : Nat) (l2 : Int32) (M : PM) : qO :=
  some (.inl (some (.int l2)), M)
set_option maxHeartbeats 4000000 in
set_option maxRecDepth 100000 in
theorem E_XNodes_makeBoth_20 {g : qG} {X : qX} {Z : qZ} (hn : 2 ≤ zn Z) (hl : 49 ≤ zl Z) {n : Nat} {l2 : Int32} {M : PM} (h : F_XNodes_makeBoth_20 n l2 M = some (zr Z, zf Z)) : EW Y_XNodes_makeBoth g X Z 20 [(2, .int l2)] [] M := by
  unfold F_XNodes_makeBoth_20 at h
  refine ew_iload_n 2 d_XNodes_makeBoth_20 rfl rfl ?_
  obtain ⟨hz, hm⟩ := Prod.mk.inj (Option.some.inj h)
  exact ew_ireturn d_XNodes_makeBoth_21 rfl hz.symm hm.symm
def F_XNodes_makeBoth (n : Nat) (l0 : Nat) (l1 : Int32) (l2 : Int32) (M : PM) : qO :=
  if l1 = (0 : Int32) then
    F_XNodes_makeBoth_8 n M
  else
    if l2 = (0 : Int32) then
      F_XNodes_makeBoth_8 n M
    else
      if l1 = (1 : Int32) then
        F_XNodes_makeBoth_20 n l2 M
      else
        if l1 = l2 then
          F_XNodes_makeBoth_20 n l2 M
        else
          if l2 = (1 : Int32) then
            some (.inl (some (.int l1)), M)
          else
            bI (if l2 < l1 then l2 else l1) (fun v6 =>
            bI (if l1 < l2 then l2 else l1) (fun v7 =>
            kO 3 M l0 (
            cI (F_XNodes_put n l0 (8 : Int32) v6 v7 (-1 : Int32) M) (fun v9 M8 =>
            some (.inl (some (.int v9)), M8)))))
set_option maxHeartbeats 4000000 in
set_option maxRecDepth 100000 in
theorem E_XNodes_makeBoth {g : qG} {X : qX} {Z : qZ} (hn : 2 ≤ zn Z) (hl : 49 ≤ zl Z) {n : Nat} {l0 : Nat} {l1 : Int32} {l2 : Int32} {M : PM} (h : F_XNodes_makeBoth n l0 l1 l2 M = some (zr Z, zf Z)) : EW Y_XNodes_makeBoth g X Z 0 [(0, .ref l0), (1, .int l1), (2, .int l2)] [] M := by
  unfold F_XNodes_makeBoth at h
  refine ew_iload_n 1 d_XNodes_makeBoth_0 rfl rfl ?_
  refine ew_if_eq 8 d_XNodes_makeBoth_1 (by decide) (fun c1 => ?_) (fun c1 => ?_)
  · rw [if_pos c1] at h
    exact ew_pick (L' := []) [] rfl (E_XNodes_makeBoth_8 hn hl h)
  · rw [if_neg c1] at h
    refine ew_iload_n 2 d_XNodes_makeBoth_4 rfl rfl ?_
    refine ew_if_ne 10 d_XNodes_makeBoth_5 (by decide) (fun c2 => ?_) (fun c2 => ?_)
    · rw [if_neg c2] at h
      refine ew_iload_n 1 d_XNodes_makeBoth_10 rfl rfl ?_
      refine ew_iconst (1) d_XNodes_makeBoth_11 (by decide) ?_
      refine ew_icmp_eq 20 d_XNodes_makeBoth_12 (by decide) (fun c3 => ?_) (fun c3 => ?_)
      · rw [if_pos c3] at h
        exact ew_pick (L' := [(2, .int l2)]) [2] rfl (E_XNodes_makeBoth_20 hn hl h)
      · rw [if_neg c3] at h
        refine ew_iload_n 1 d_XNodes_makeBoth_15 rfl rfl ?_
        refine ew_iload_n 2 d_XNodes_makeBoth_16 rfl rfl ?_
        refine ew_icmp_ne 22 d_XNodes_makeBoth_17 (by decide) (fun c4 => ?_) (fun c4 => ?_)
        · rw [if_neg c4] at h
          refine ew_iload_n 2 d_XNodes_makeBoth_22 rfl rfl ?_
          refine ew_iconst (1) d_XNodes_makeBoth_23 (by decide) ?_
          refine ew_icmp_ne 29 d_XNodes_makeBoth_24 (by decide) (fun c5 => ?_) (fun c5 => ?_)
          · rw [if_neg c5] at h
            refine ew_aload_n 0 d_XNodes_makeBoth_29 rfl rfl ?_
            refine ew_bipush (8) d_XNodes_makeBoth_30 (by decide +kernel) ?_
            refine ew_iload_n 1 d_XNodes_makeBoth_32 rfl rfl ?_
            refine ew_iload_n 2 d_XNodes_makeBoth_33 rfl rfl ?_
            obtain ⟨v6, ev6, h⟩ := bI_inv h
            refine ew_mmin d_XNodes_makeBoth_34 ma_XNodes_48 ev6 (Nat.le_trans (Nat.le_of_ble_eq_true rfl) hn) (Nat.le_trans (Nat.le_of_ble_eq_true rfl) hl) ?_
            refine ew_iload_n 1 d_XNodes_makeBoth_37 rfl rfl ?_
            refine ew_iload_n 2 d_XNodes_makeBoth_38 rfl rfl ?_
            obtain ⟨v7, ev7, h⟩ := bI_inv h
            refine ew_mmax d_XNodes_makeBoth_39 ma_XNodes_54 ev7 (Nat.le_trans (Nat.le_of_ble_eq_true rfl) hn) (Nat.le_trans (Nat.le_of_ble_eq_true rfl) hl) ?_
            refine ew_iconst (-1) d_XNodes_makeBoth_42 (by decide) ?_
            obtain ⟨kM8, h⟩ := kO_inv h
            obtain ⟨v9, M8, hM8, h⟩ := cI_inv h
            refine ew_callV 3 [.int (8 : Int32), .int v6, .int v7, .int (-1 : Int32)] d_XNodes_makeBoth_43 cv_XNodes_44 (T_XNodes_put hM8) kM8 (Nat.le_trans (Nat.le_of_ble_eq_true rfl) hn) (Nat.le_trans (Nat.le_of_ble_eq_true rfl) hl) (Nat.le_of_ble_eq_true rfl) rfl rfl ?_
            obtain ⟨hz, hm⟩ := Prod.mk.inj (Option.some.inj h)
            exact ew_ireturn d_XNodes_makeBoth_46 rfl hz.symm hm.symm
          · rw [if_pos c5] at h
            refine ew_iload_n 1 d_XNodes_makeBoth_27 rfl rfl ?_
            obtain ⟨hz, hm⟩ := Prod.mk.inj (Option.some.inj h)
            exact ew_ireturn d_XNodes_makeBoth_28 rfl hz.symm hm.symm
        · rw [if_pos c4] at h
          exact ew_pick (L' := [(2, .int l2)]) [2] rfl (E_XNodes_makeBoth_20 hn hl h)
    · rw [if_pos c2] at h
      exact ew_pick (L' := []) [] rfl (E_XNodes_makeBoth_8 hn hl h)
theorem T_XNodes_makeBoth {n : Nat} {l0 : Nat} {l1 : Int32} {l2 : Int32} {M Mf : PM} {res : qRs} (h : F_XNodes_makeBoth n l0 l1 l2 M = some (res, Mf)) : CT Y_XNodes_makeBoth 2 49 [.ref l0, .int l1, .int l2] M res Mf :=
  CT_of (by decide) (Nat.le_of_ble_eq_true rfl) (qHd_ne (by decide)) (fun g X ad0 => E_XNodes_makeBoth (g := g) (X := X) (Z := (ad0, M, res, Mf, 2, 49)) (Nat.le_refl _) (Nat.le_refl _) h)
theorem d_XNodes_makeChoice_0 : decode Y_XNodes_makeChoice.2.1 0 = .ok (.iload_n 1, 1) := by decide +kernel
theorem d_XNodes_makeChoice_1 : decode Y_XNodes_makeChoice.2.1 1 = .ok (.iconst 1, 1) := by decide +kernel
theorem d_XNodes_makeChoice_2 : decode Y_XNodes_makeChoice.2.1 2 = .ok (.if_icmp .eq (8), 3) := by decide +kernel
theorem d_XNodes_makeChoice_5 : decode Y_XNodes_makeChoice.2.1 5 = .ok (.iload_n 2, 1) := by decide +kernel
theorem d_XNodes_makeChoice_6 : decode Y_XNodes_makeChoice.2.1 6 = .ok (.iload_n 3, 1) := by decide +kernel
theorem d_XNodes_makeChoice_7 : decode Y_XNodes_makeChoice.2.1 7 = .ok (.if_icmp .ne (5), 3) := by decide +kernel
theorem d_XNodes_makeChoice_10 : decode Y_XNodes_makeChoice.2.1 10 = .ok (.iload_n 2, 1) := by decide +kernel
theorem d_XNodes_makeChoice_11 : decode Y_XNodes_makeChoice.2.1 11 = .ok (.ireturn, 1) := by decide +kernel
theorem d_XNodes_makeChoice_12 : decode Y_XNodes_makeChoice.2.1 12 = .ok (.iload_n 1, 1) := by decide +kernel
theorem d_XNodes_makeChoice_13 : decode Y_XNodes_makeChoice.2.1 13 = .ok (.ifCond .ne (5), 3) := by decide +kernel
theorem d_XNodes_makeChoice_16 : decode Y_XNodes_makeChoice.2.1 16 = .ok (.iload_n 3, 1) := by decide +kernel
theorem d_XNodes_makeChoice_17 : decode Y_XNodes_makeChoice.2.1 17 = .ok (.ireturn, 1) := by decide +kernel
theorem d_XNodes_makeChoice_18 : decode Y_XNodes_makeChoice.2.1 18 = .ok (.aload_n 0, 1) := by decide +kernel
theorem d_XNodes_makeChoice_19 : decode Y_XNodes_makeChoice.2.1 19 = .ok (.bipush (9), 2) := by decide +kernel
theorem d_XNodes_makeChoice_21 : decode Y_XNodes_makeChoice.2.1 21 = .ok (.iload_n 1, 1) := by decide +kernel
theorem d_XNodes_makeChoice_22 : decode Y_XNodes_makeChoice.2.1 22 = .ok (.iload_n 2, 1) := by decide +kernel
theorem d_XNodes_makeChoice_23 : decode Y_XNodes_makeChoice.2.1 23 = .ok (.iload_n 3, 1) := by decide +kernel
theorem d_XNodes_makeChoice_24 : decode Y_XNodes_makeChoice.2.1 24 = .ok (.invokevirtual 44, 3) := by decide +kernel
theorem d_XNodes_makeChoice_27 : decode Y_XNodes_makeChoice.2.1 27 = .ok (.ireturn, 1) := by decide +kernel
def F_XNodes_makeChoice_10 (n : Nat) (l2 : Int32) (M : PM) : qO :=
  some (.inl (some (.int l2)), M)
set_option maxHeartbeats 4000000 in
set_option maxRecDepth 100000 in
theorem E_XNodes_makeChoice_10 {g : qG} {X : qX} {Z : qZ} (hn : 2 ≤ zn Z) (hl : 49 ≤ zl Z) {n : Nat} {l2 : Int32} {M : PM} (h : F_XNodes_makeChoice_10 n l2 M = some (zr Z, zf Z)) : EW Y_XNodes_makeChoice g X Z 10 [(2, .int l2)] [] M := by
  unfold F_XNodes_makeChoice_10 at h
  refine ew_iload_n 2 d_XNodes_makeChoice_10 rfl rfl ?_
  obtain ⟨hz, hm⟩ := Prod.mk.inj (Option.some.inj h)
  exact ew_ireturn d_XNodes_makeChoice_11 rfl hz.symm hm.symm
def F_XNodes_makeChoice (n : Nat) (l0 : Nat) (l1 : Int32) (l2 : Int32) (l3 : Int32) (M : PM) : qO :=
  if l1 = (1 : Int32) then
    F_XNodes_makeChoice_10 n l2 M
  else
    if l2 = l3 then
      F_XNodes_makeChoice_10 n l2 M
    else
      if l1 = (0 : Int32) then
        some (.inl (some (.int l3)), M)
      else
        kO 3 M l0 (
        cI (F_XNodes_put n l0 (9 : Int32) l1 l2 l3 M) (fun v5 M4 =>
        some (.inl (some (.int v5)), M4)))
set_option maxHeartbeats 4000000 in
set_option maxRecDepth 100000 in
theorem E_XNodes_makeChoice {g : qG} {X : qX} {Z : qZ} (hn : 2 ≤ zn Z) (hl : 49 ≤ zl Z) {n : Nat} {l0 : Nat} {l1 : Int32} {l2 : Int32} {l3 : Int32} {M : PM} (h : F_XNodes_makeChoice n l0 l1 l2 l3 M = some (zr Z, zf Z)) : EW Y_XNodes_makeChoice g X Z 0 [(0, .ref l0), (1, .int l1), (2, .int l2), (3, .int l3)] [] M := by
  unfold F_XNodes_makeChoice at h
  refine ew_iload_n 1 d_XNodes_makeChoice_0 rfl rfl ?_
  refine ew_iconst (1) d_XNodes_makeChoice_1 (by decide) ?_
  refine ew_icmp_eq 10 d_XNodes_makeChoice_2 (by decide) (fun c1 => ?_) (fun c1 => ?_)
  · rw [if_pos c1] at h
    exact ew_pick (L' := [(2, .int l2)]) [2] rfl (E_XNodes_makeChoice_10 hn hl h)
  · rw [if_neg c1] at h
    refine ew_iload_n 2 d_XNodes_makeChoice_5 rfl rfl ?_
    refine ew_iload_n 3 d_XNodes_makeChoice_6 rfl rfl ?_
    refine ew_icmp_ne 12 d_XNodes_makeChoice_7 (by decide) (fun c2 => ?_) (fun c2 => ?_)
    · rw [if_neg c2] at h
      refine ew_iload_n 1 d_XNodes_makeChoice_12 rfl rfl ?_
      refine ew_if_ne 18 d_XNodes_makeChoice_13 (by decide) (fun c3 => ?_) (fun c3 => ?_)
      · rw [if_neg c3] at h
        refine ew_aload_n 0 d_XNodes_makeChoice_18 rfl rfl ?_
        refine ew_bipush (9) d_XNodes_makeChoice_19 (by decide +kernel) ?_
        refine ew_iload_n 1 d_XNodes_makeChoice_21 rfl rfl ?_
        refine ew_iload_n 2 d_XNodes_makeChoice_22 rfl rfl ?_
        refine ew_iload_n 3 d_XNodes_makeChoice_23 rfl rfl ?_
        obtain ⟨kM4, h⟩ := kO_inv h
        obtain ⟨v5, M4, hM4, h⟩ := cI_inv h
        refine ew_callV 3 [.int (9 : Int32), .int l1, .int l2, .int l3] d_XNodes_makeChoice_24 cv_XNodes_44 (T_XNodes_put hM4) kM4 (Nat.le_trans (Nat.le_of_ble_eq_true rfl) hn) (Nat.le_trans (Nat.le_of_ble_eq_true rfl) hl) (Nat.le_of_ble_eq_true rfl) rfl rfl ?_
        obtain ⟨hz, hm⟩ := Prod.mk.inj (Option.some.inj h)
        exact ew_ireturn d_XNodes_makeChoice_27 rfl hz.symm hm.symm
      · rw [if_pos c3] at h
        refine ew_iload_n 3 d_XNodes_makeChoice_16 rfl rfl ?_
        obtain ⟨hz, hm⟩ := Prod.mk.inj (Option.some.inj h)
        exact ew_ireturn d_XNodes_makeChoice_17 rfl hz.symm hm.symm
    · rw [if_pos c2] at h
      exact ew_pick (L' := [(2, .int l2)]) [2] rfl (E_XNodes_makeChoice_10 hn hl h)
theorem T_XNodes_makeChoice {n : Nat} {l0 : Nat} {l1 : Int32} {l2 : Int32} {l3 : Int32} {M Mf : PM} {res : qRs} (h : F_XNodes_makeChoice n l0 l1 l2 l3 M = some (res, Mf)) : CT Y_XNodes_makeChoice 2 49 [.ref l0, .int l1, .int l2, .int l3] M res Mf :=
  CT_of (by decide) (Nat.le_of_ble_eq_true rfl) (qHd_ne (by decide)) (fun g X ad0 => E_XNodes_makeChoice (g := g) (X := X) (Z := (ad0, M, res, Mf, 2, 49)) (Nat.le_refl _) (Nat.le_refl _) h)
theorem d_XNodes_makeDifference_0 : decode Y_XNodes_makeDifference.2.1 0 = .ok (.iload_n 1, 1) := by decide +kernel
theorem d_XNodes_makeDifference_1 : decode Y_XNodes_makeDifference.2.1 1 = .ok (.iload_n 2, 1) := by decide +kernel
theorem d_XNodes_makeDifference_2 : decode Y_XNodes_makeDifference.2.1 2 = .ok (.if_icmp .ne (5), 3) := by decide +kernel
theorem d_XNodes_makeDifference_5 : decode Y_XNodes_makeDifference.2.1 5 = .ok (.iconst 0, 1) := by decide +kernel
theorem d_XNodes_makeDifference_6 : decode Y_XNodes_makeDifference.2.1 6 = .ok (.ireturn, 1) := by decide +kernel
theorem d_XNodes_makeDifference_7 : decode Y_XNodes_makeDifference.2.1 7 = .ok (.aload_n 0, 1) := by decide +kernel
theorem d_XNodes_makeDifference_8 : decode Y_XNodes_makeDifference.2.1 8 = .ok (.iload_n 1, 1) := by decide +kernel
theorem d_XNodes_makeDifference_9 : decode Y_XNodes_makeDifference.2.1 9 = .ok (.invokevirtual 61, 3) := by decide +kernel
theorem d_XNodes_makeDifference_12 : decode Y_XNodes_makeDifference.2.1 12 = .ok (.ifCond .eq (14), 3) := by decide +kernel
theorem d_XNodes_makeDifference_15 : decode Y_XNodes_makeDifference.2.1 15 = .ok (.aload_n 0, 1) := by decide +kernel
theorem d_XNodes_makeDifference_16 : decode Y_XNodes_makeDifference.2.1 16 = .ok (.aload_n 0, 1) := by decide +kernel
theorem d_XNodes_makeDifference_17 : decode Y_XNodes_makeDifference.2.1 17 = .ok (.iload_n 1, 1) := by decide +kernel
theorem d_XNodes_makeDifference_18 : decode Y_XNodes_makeDifference.2.1 18 = .ok (.iload_n 2, 1) := by decide +kernel
theorem d_XNodes_makeDifference_19 : decode Y_XNodes_makeDifference.2.1 19 = .ok (.invokevirtual 64, 3) := by decide +kernel
theorem d_XNodes_makeDifference_22 : decode Y_XNodes_makeDifference.2.1 22 = .ok (.invokevirtual 67, 3) := by decide +kernel
theorem d_XNodes_makeDifference_25 : decode Y_XNodes_makeDifference.2.1 25 = .ok (.ireturn, 1) := by decide +kernel
theorem d_XNodes_makeDifference_26 : decode Y_XNodes_makeDifference.2.1 26 = .ok (.aload_n 0, 1) := by decide +kernel
theorem d_XNodes_makeDifference_27 : decode Y_XNodes_makeDifference.2.1 27 = .ok (.iload_n 1, 1) := by decide +kernel
theorem d_XNodes_makeDifference_28 : decode Y_XNodes_makeDifference.2.1 28 = .ok (.aload_n 0, 1) := by decide +kernel
theorem d_XNodes_makeDifference_29 : decode Y_XNodes_makeDifference.2.1 29 = .ok (.iload_n 2, 1) := by decide +kernel
theorem d_XNodes_makeDifference_30 : decode Y_XNodes_makeDifference.2.1 30 = .ok (.invokevirtual 67, 3) := by decide +kernel
theorem d_XNodes_makeDifference_33 : decode Y_XNodes_makeDifference.2.1 33 = .ok (.iload_n 2, 1) := by decide +kernel
theorem d_XNodes_makeDifference_34 : decode Y_XNodes_makeDifference.2.1 34 = .ok (.invokevirtual 71, 3) := by decide +kernel
theorem d_XNodes_makeDifference_37 : decode Y_XNodes_makeDifference.2.1 37 = .ok (.ireturn, 1) := by decide +kernel
def F_XNodes_makeDifference (n : Nat) (l0 : Nat) (l1 : Int32) (l2 : Int32) (M : PM) : qO :=
  if l1 = l2 then
    some (.inl (some (.int (0 : Int32))), M)
  else
    kO 3 M l0 (
    cI (F_XNodes_isWord n l0 l1 M) (fun v3 M2 =>
    if v3 = (0 : Int32) then
      kO 3 M2 l0 (
      cI (F_XNodes_makeNot n l0 l2 M2) (fun v6 M5 =>
      kO 3 M5 l0 (
      cI (F_XNodes_makeChoice n l0 l1 v6 l2 M5) (fun v8 M7 =>
      some (.inl (some (.int v8)), M7)))))
    else
      kO 3 M2 l0 (
      cI (F_XNodes_makeEquality n l0 l1 l2 M2) (fun v10 M9 =>
      kO 3 M9 l0 (
      cI (F_XNodes_makeNot n l0 v10 M9) (fun v12 M11 =>
      some (.inl (some (.int v12)), M11)))))))
set_option maxHeartbeats 4000000 in
set_option maxRecDepth 100000 in
theorem E_XNodes_makeDifference {g : qG} {X : qX} {Z : qZ} (hn : 3 ≤ zn Z) (hl : 72 ≤ zl Z) {n : Nat} {l0 : Nat} {l1 : Int32} {l2 : Int32} {M : PM} (h : F_XNodes_makeDifference n l0 l1 l2 M = some (zr Z, zf Z)) : EW Y_XNodes_makeDifference g X Z 0 [(0, .ref l0), (1, .int l1), (2, .int l2)] [] M := by
  unfold F_XNodes_makeDifference at h
  refine ew_iload_n 1 d_XNodes_makeDifference_0 rfl rfl ?_
  refine ew_iload_n 2 d_XNodes_makeDifference_1 rfl rfl ?_
  refine ew_icmp_ne 7 d_XNodes_makeDifference_2 (by decide) (fun c1 => ?_) (fun c1 => ?_)
  · rw [if_neg c1] at h
    refine ew_aload_n 0 d_XNodes_makeDifference_7 rfl rfl ?_
    refine ew_iload_n 1 d_XNodes_makeDifference_8 rfl rfl ?_
    obtain ⟨kM2, h⟩ := kO_inv h
    obtain ⟨v3, M2, hM2, h⟩ := cI_inv h
    refine ew_callV 3 [.int l1] d_XNodes_makeDifference_9 cv_XNodes_61 (T_XNodes_isWord hM2) kM2 (Nat.le_trans (Nat.le_of_ble_eq_true rfl) hn) (Nat.le_trans (Nat.le_of_ble_eq_true rfl) hl) (Nat.le_of_ble_eq_true rfl) rfl rfl ?_
    refine ew_if_eq 26 d_XNodes_makeDifference_12 (by decide) (fun c4 => ?_) (fun c4 => ?_)
    · rw [if_pos c4] at h
      refine ew_aload_n 0 d_XNodes_makeDifference_26 rfl rfl ?_
      refine ew_iload_n 1 d_XNodes_makeDifference_27 rfl rfl ?_
      refine ew_aload_n 0 d_XNodes_makeDifference_28 rfl rfl ?_
      refine ew_iload_n 2 d_XNodes_makeDifference_29 rfl rfl ?_
      obtain ⟨kM5, h⟩ := kO_inv h
      obtain ⟨v6, M5, hM5, h⟩ := cI_inv h
      refine ew_callV 3 [.int l2] d_XNodes_makeDifference_30 cv_XNodes_67 (T_XNodes_makeNot hM5) kM5 (Nat.le_trans (Nat.le_of_ble_eq_true rfl) hn) (Nat.le_trans (Nat.le_of_ble_eq_true rfl) hl) (Nat.le_of_ble_eq_true rfl) rfl rfl ?_
      refine ew_iload_n 2 d_XNodes_makeDifference_33 rfl rfl ?_
      obtain ⟨kM7, h⟩ := kO_inv h
      obtain ⟨v8, M7, hM7, h⟩ := cI_inv h
      refine ew_callV 3 [.int l1, .int v6, .int l2] d_XNodes_makeDifference_34 cv_XNodes_71 (T_XNodes_makeChoice hM7) kM7 (Nat.le_trans (Nat.le_of_ble_eq_true rfl) hn) (Nat.le_trans (Nat.le_of_ble_eq_true rfl) hl) (Nat.le_of_ble_eq_true rfl) rfl rfl ?_
      obtain ⟨hz, hm⟩ := Prod.mk.inj (Option.some.inj h)
      exact ew_ireturn d_XNodes_makeDifference_37 rfl hz.symm hm.symm
    · rw [if_neg c4] at h
      refine ew_aload_n 0 d_XNodes_makeDifference_15 rfl rfl ?_
      refine ew_aload_n 0 d_XNodes_makeDifference_16 rfl rfl ?_
      refine ew_iload_n 1 d_XNodes_makeDifference_17 rfl rfl ?_
      refine ew_iload_n 2 d_XNodes_makeDifference_18 rfl rfl ?_
      obtain ⟨kM9, h⟩ := kO_inv h
      obtain ⟨v10, M9, hM9, h⟩ := cI_inv h
      refine ew_callV 3 [.int l1, .int l2] d_XNodes_makeDifference_19 cv_XNodes_64 (T_XNodes_makeEquality hM9) kM9 (Nat.le_trans (Nat.le_of_ble_eq_true rfl) hn) (Nat.le_trans (Nat.le_of_ble_eq_true rfl) hl) (Nat.le_of_ble_eq_true rfl) rfl rfl ?_
      obtain ⟨kM11, h⟩ := kO_inv h
      obtain ⟨v12, M11, hM11, h⟩ := cI_inv h
      refine ew_callV 3 [.int v10] d_XNodes_makeDifference_22 cv_XNodes_67 (T_XNodes_makeNot hM11) kM11 (Nat.le_trans (Nat.le_of_ble_eq_true rfl) hn) (Nat.le_trans (Nat.le_of_ble_eq_true rfl) hl) (Nat.le_of_ble_eq_true rfl) rfl rfl ?_
      obtain ⟨hz, hm⟩ := Prod.mk.inj (Option.some.inj h)
      exact ew_ireturn d_XNodes_makeDifference_25 rfl hz.symm hm.symm
  · rw [if_pos c1] at h
    refine ew_iconst (0) d_XNodes_makeDifference_5 (by decide) ?_
    obtain ⟨hz, hm⟩ := Prod.mk.inj (Option.some.inj h)
    exact ew_ireturn d_XNodes_makeDifference_6 rfl hz.symm hm.symm
theorem T_XNodes_makeDifference {n : Nat} {l0 : Nat} {l1 : Int32} {l2 : Int32} {M Mf : PM} {res : qRs} (h : F_XNodes_makeDifference n l0 l1 l2 M = some (res, Mf)) : CT Y_XNodes_makeDifference 3 72 [.ref l0, .int l1, .int l2] M res Mf :=
  CT_of (by decide) (Nat.le_of_ble_eq_true rfl) (qHd_ne (by decide)) (fun g X ad0 => E_XNodes_makeDifference (g := g) (X := X) (Z := (ad0, M, res, Mf, 3, 72)) (Nat.le_refl _) (Nat.le_refl _) h)
theorem d_XNodes_imageOf_0 : decode Y_XNodes_imageOf.2.1 0 = .ok (.iload_n 1, 1) := by decide +kernel
theorem d_XNodes_imageOf_1 : decode Y_XNodes_imageOf.2.1 1 = .ok (.ifCond .lt (15), 3) := by decide +kernel
theorem d_XNodes_imageOf_4 : decode Y_XNodes_imageOf.2.1 4 = .ok (.iload_n 1, 1) := by decide +kernel
theorem d_XNodes_imageOf_5 : decode Y_XNodes_imageOf.2.1 5 = .ok (.aload_n 0, 1) := by decide +kernel
theorem d_XNodes_imageOf_6 : decode Y_XNodes_imageOf.2.1 6 = .ok (.arraylength, 1) := by decide +kernel
theorem d_XNodes_imageOf_7 : decode Y_XNodes_imageOf.2.1 7 = .ok (.if_icmp .ge (9), 3) := by decide +kernel
theorem d_XNodes_imageOf_10 : decode Y_XNodes_imageOf.2.1 10 = .ok (.aload_n 0, 1) := by decide +kernel
theorem d_XNodes_imageOf_11 : decode Y_XNodes_imageOf.2.1 11 = .ok (.iload_n 1, 1) := by decide +kernel
theorem d_XNodes_imageOf_12 : decode Y_XNodes_imageOf.2.1 12 = .ok (.iaload, 1) := by decide +kernel
theorem d_XNodes_imageOf_13 : decode Y_XNodes_imageOf.2.1 13 = .ok (.goto (4), 3) := by decide +kernel
theorem d_XNodes_imageOf_16 : decode Y_XNodes_imageOf.2.1 16 = .ok (.iconst (-1), 1) := by decide +kernel
theorem d_XNodes_imageOf_17 : decode Y_XNodes_imageOf.2.1 17 = .ok (.ireturn, 1) := by decide +kernel
def F_XNodes_imageOf_17 (n : Nat) (s0 : Int32) (M : PM) : qO :=
  some (.inl (some (.int s0)), M)
set_option maxHeartbeats 4000000 in
set_option maxRecDepth 100000 in
theorem E_XNodes_imageOf_17 {g : qG} {X : qX} {Z : qZ} (hn : 0 ≤ zn Z) (hl : 0 ≤ zl Z) {n : Nat} {s0 : Int32} {M : PM} (h : F_XNodes_imageOf_17 n s0 M = some (zr Z, zf Z)) : EW Y_XNodes_imageOf g X Z 17 [] [.int s0] M := by
  unfold F_XNodes_imageOf_17 at h
  obtain ⟨hz, hm⟩ := Prod.mk.inj (Option.some.inj h)
  exact ew_ireturn d_XNodes_imageOf_17 rfl hz.symm hm.symm
def F_XNodes_imageOf_16 (n : Nat) (M : PM) : qO :=
  F_XNodes_imageOf_17 n (-1 : Int32) M
set_option maxHeartbeats 4000000 in
set_option maxRecDepth 100000 in
theorem E_XNodes_imageOf_16 {g : qG} {X : qX} {Z : qZ} (hn : 0 ≤ zn Z) (hl : 0 ≤ zl Z) {n : Nat} {M : PM} (h : F_XNodes_imageOf_16 n M = some (zr Z, zf Z)) : EW Y_XNodes_imageOf g X Z 16 [] [] M := by
  unfold F_XNodes_imageOf_16 at h
  refine ew_iconst (-1) d_XNodes_imageOf_16 (by decide) ?_
  exact E_XNodes_imageOf_17 hn hl h
def F_XNodes_imageOf (n : Nat) (l0 : Nat) (l1 : Int32) (M : PM) : qO :=
  if l1 < (0 : Int32) then
    F_XNodes_imageOf_16 n M
  else
    aL M l0 (fun v2 =>
    if v2 ≤ l1 then
      F_XNodes_imageOf_16 n M
    else
      lI M l0 l1 (fun v4 =>
      F_XNodes_imageOf_17 n v4 M))
set_option maxHeartbeats 4000000 in
set_option maxRecDepth 100000 in
theorem E_XNodes_imageOf {g : qG} {X : qX} {Z : qZ} (hn : 0 ≤ zn Z) (hl : 0 ≤ zl Z) {n : Nat} {l0 : Nat} {l1 : Int32} {M : PM} (h : F_XNodes_imageOf n l0 l1 M = some (zr Z, zf Z)) : EW Y_XNodes_imageOf g X Z 0 [(0, .ref l0), (1, .int l1)] [] M := by
  unfold F_XNodes_imageOf at h
  refine ew_iload_n 1 d_XNodes_imageOf_0 rfl rfl ?_
  refine ew_if_lt 16 d_XNodes_imageOf_1 (by decide) (fun c1 => ?_) (fun c1 => ?_)
  · rw [if_pos c1] at h
    exact ew_pick (L' := []) [] rfl (E_XNodes_imageOf_16 hn hl h)
  · rw [if_neg c1] at h
    refine ew_iload_n 1 d_XNodes_imageOf_4 rfl rfl ?_
    refine ew_aload_n 0 d_XNodes_imageOf_5 rfl rfl ?_
    obtain ⟨v2, av2, ev2, h⟩ := aL_inv h
    refine ew_aL d_XNodes_imageOf_6 av2 ev2 ?_
    refine ew_icmp_ge 16 d_XNodes_imageOf_7 (by decide) (fun c3 => ?_) (fun c3 => ?_)
    · rw [if_pos c3] at h
      exact ew_pick (L' := []) [] rfl (E_XNodes_imageOf_16 hn hl h)
    · rw [if_neg c3] at h
      refine ew_aload_n 0 d_XNodes_imageOf_10 rfl rfl ?_
      refine ew_iload_n 1 d_XNodes_imageOf_11 rfl rfl ?_
      obtain ⟨v4, av4, bv4, cv4, ev4, h⟩ := lI_inv h
      refine ew_lI d_XNodes_imageOf_12 av4 bv4 cv4 ev4 ?_
      refine ew_goto 17 d_XNodes_imageOf_13 (by decide) ?_
      exact ew_pick (L' := []) [] rfl (E_XNodes_imageOf_17 hn hl h)
theorem T_XNodes_imageOf {n : Nat} {l0 : Nat} {l1 : Int32} {M Mf : PM} {res : qRs} (h : F_XNodes_imageOf n l0 l1 M = some (res, Mf)) : CT Y_XNodes_imageOf 0 0 [.ref l0, .int l1] M res Mf :=
  CT_of (by decide) (Nat.le_of_ble_eq_true rfl) (qHd_ne (by decide)) (fun g X ad0 => E_XNodes_imageOf (g := g) (X := X) (Z := (ad0, M, res, Mf, 0, 0)) (Nat.le_refl _) (Nat.le_refl _) h)
