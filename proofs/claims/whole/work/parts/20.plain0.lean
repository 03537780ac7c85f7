theorem d_XNodes_init_0 : decode Y_XNodes_init.2.1 0 = .ok (.aload_n 0, 1) := by decide +kernel
theorem d_XNodes_init_1 : decode Y_XNodes_init.2.1 1 = .ok (.invokespecial 3, 3) := by decide +kernel
theorem d_XNodes_init_4 : decode Y_XNodes_init.2.1 4 = .ok (.aload_n 0, 1) := by decide +kernel
theorem d_XNodes_init_5 : decode Y_XNodes_init.2.1 5 = .ok (.iload_n 1, 1) := by decide +kernel
theorem d_XNodes_init_6 : decode Y_XNodes_init.2.1 6 = .ok (.newarray .int, 2) := by decide +kernel
theorem d_XNodes_init_8 : decode Y_XNodes_init.2.1 8 = .ok (.putfield 9, 3) := by decide +kernel
theorem d_XNodes_init_11 : decode Y_XNodes_init.2.1 11 = .ok (.aload_n 0, 1) := by decide +kernel
theorem d_XNodes_init_12 : decode Y_XNodes_init.2.1 12 = .ok (.iload_n 1, 1) := by decide +kernel
theorem d_XNodes_init_13 : decode Y_XNodes_init.2.1 13 = .ok (.newarray .int, 2) := by decide +kernel
theorem d_XNodes_init_15 : decode Y_XNodes_init.2.1 15 = .ok (.putfield 15, 3) := by decide +kernel
theorem d_XNodes_init_18 : decode Y_XNodes_init.2.1 18 = .ok (.aload_n 0, 1) := by decide +kernel
theorem d_XNodes_init_19 : decode Y_XNodes_init.2.1 19 = .ok (.iload_n 1, 1) := by decide +kernel
theorem d_XNodes_init_20 : decode Y_XNodes_init.2.1 20 = .ok (.newarray .int, 2) := by decide +kernel
theorem d_XNodes_init_22 : decode Y_XNodes_init.2.1 22 = .ok (.putfield 18, 3) := by decide +kernel
theorem d_XNodes_init_25 : decode Y_XNodes_init.2.1 25 = .ok (.aload_n 0, 1) := by decide +kernel
theorem d_XNodes_init_26 : decode Y_XNodes_init.2.1 26 = .ok (.iload_n 1, 1) := by decide +kernel
theorem d_XNodes_init_27 : decode Y_XNodes_init.2.1 27 = .ok (.newarray .int, 2) := by decide +kernel
theorem d_XNodes_init_29 : decode Y_XNodes_init.2.1 29 = .ok (.putfield 21, 3) := by decide +kernel
theorem d_XNodes_init_32 : decode Y_XNodes_init.2.1 32 = .ok (.aload_n 0, 1) := by decide +kernel
theorem d_XNodes_init_33 : decode Y_XNodes_init.2.1 33 = .ok (.iload_n 1, 1) := by decide +kernel
theorem d_XNodes_init_34 : decode Y_XNodes_init.2.1 34 = .ok (.newarray .boolean, 2) := by decide +kernel
theorem d_XNodes_init_36 : decode Y_XNodes_init.2.1 36 = .ok (.putfield 24, 3) := by decide +kernel
theorem d_XNodes_init_39 : decode Y_XNodes_init.2.1 39 = .ok (.aload_n 0, 1) := by decide +kernel
theorem d_XNodes_init_40 : decode Y_XNodes_init.2.1 40 = .ok (.iload_n 1, 1) := by decide +kernel
theorem d_XNodes_init_41 : decode Y_XNodes_init.2.1 41 = .ok (.newarray .int, 2) := by decide +kernel
theorem d_XNodes_init_43 : decode Y_XNodes_init.2.1 43 = .ok (.putfield 28, 3) := by decide +kernel
theorem d_XNodes_init_46 : decode Y_XNodes_init.2.1 46 = .ok (.aload_n 0, 1) := by decide +kernel
theorem d_XNodes_init_47 : decode Y_XNodes_init.2.1 47 = .ok (.iload_n 2, 1) := by decide +kernel
theorem d_XNodes_init_48 : decode Y_XNodes_init.2.1 48 = .ok (.newarray .int, 2) := by decide +kernel
theorem d_XNodes_init_50 : decode Y_XNodes_init.2.1 50 = .ok (.putfield 31, 3) := by decide +kernel
theorem d_XNodes_init_53 : decode Y_XNodes_init.2.1 53 = .ok (.return_, 1) := by decide +kernel
def F_XNodes_init (n : Nat) (l0 : Nat) (l1 : Int32) (l2 : Int32) (M : PM) : qO :=
  mA 0 M l1 (fun q1 M2 =>
  pF 3 M2 l0 0 (.ref q1) (fun M3 =>
  mA 0 M3 l1 (fun q4 M5 =>
  pF 3 M5 l0 1 (.ref q4) (fun M6 =>
  mA 0 M6 l1 (fun q7 M8 =>
  pF 3 M8 l0 2 (.ref q7) (fun M9 =>
  mA 0 M9 l1 (fun q10 M11 =>
  pF 3 M11 l0 3 (.ref q10) (fun M12 =>
  mA 1 M12 l1 (fun q13 M14 =>
  pF 3 M14 l0 4 (.ref q13) (fun M15 =>
  mA 0 M15 l1 (fun q16 M17 =>
  pF 3 M17 l0 6 (.ref q16) (fun M18 =>
  mA 0 M18 l2 (fun q19 M20 =>
  pF 3 M20 l0 5 (.ref q19) (fun M21 =>
  some (.inl none, M21)))))))))))))))
set_option maxHeartbeats 4000000 in
set_option maxRecDepth 100000 in
theorem E_XNodes_init {g : qG} {X : qX} {Z : qZ} (hn : 1 ≤ zn Z) (hl : 40 ≤ zl Z) {n : Nat} {l0 : Nat} {l1 : Int32} {l2 : Int32} {M : PM} (h : F_XNodes_init n l0 l1 l2 M = some (zr Z, zf Z)) : EW Y_XNodes_init g X Z 0 [(0, .ref l0), (1, .int l1), (2, .int l2)] [] M := by
  unfold F_XNodes_init at h
  refine ew_aload_n 0 d_XNodes_init_0 rfl rfl ?_
  refine ew_objInit d_XNodes_init_1 ob_XNodes_3 (Nat.le_trans (Nat.le_of_ble_eq_true rfl) hn) (Nat.le_trans (Nat.le_of_ble_eq_true rfl) hl) ?_
  refine ew_aload_n 0 d_XNodes_init_4 rfl rfl ?_
  refine ew_iload_n 1 d_XNodes_init_5 rfl rfl ?_
  obtain ⟨q1, M2, aq1, bq1, eq1, fq1, h⟩ := mA_inv h
  refine ew_mA0 d_XNodes_init_6 aq1 bq1 eq1 fq1 ?_
  obtain ⟨M3, aM3, eM3, h⟩ := pF_inv h
  refine ew_pFF 3 0 d_XNodes_init_8 fl_XNodes_9 rfl rfl aM3 eM3 (fun ad => ⟨rfl, rfl⟩) ?_
  refine ew_aload_n 0 d_XNodes_init_11 rfl rfl ?_
  refine ew_iload_n 1 d_XNodes_init_12 rfl rfl ?_
  obtain ⟨q4, M5, aq4, bq4, eq4, fq4, h⟩ := mA_inv h
  refine ew_mA0 d_XNodes_init_13 aq4 bq4 eq4 fq4 ?_
  obtain ⟨M6, aM6, eM6, h⟩ := pF_inv h
  refine ew_pFF 3 1 d_XNodes_init_15 fl_XNodes_15 rfl rfl aM6 eM6 (fun ad => ⟨rfl, rfl⟩) ?_
  refine ew_aload_n 0 d_XNodes_init_18 rfl rfl ?_
  refine ew_iload_n 1 d_XNodes_init_19 rfl rfl ?_
  obtain ⟨q7, M8, aq7, bq7, eq7, fq7, h⟩ := mA_inv h
  refine ew_mA0 d_XNodes_init_20 aq7 bq7 eq7 fq7 ?_
  obtain ⟨M9, aM9, eM9, h⟩ := pF_inv h
  refine ew_pFF 3 2 d_XNodes_init_22 fl_XNodes_18 rfl rfl aM9 eM9 (fun ad => ⟨rfl, rfl⟩) ?_
  refine ew_aload_n 0 d_XNodes_init_25 rfl rfl ?_
  refine ew_iload_n 1 d_XNodes_init_26 rfl rfl ?_
  obtain ⟨q10, M11, aq10, bq10, eq10, fq10, h⟩ := mA_inv h
  refine ew_mA0 d_XNodes_init_27 aq10 bq10 eq10 fq10 ?_
  obtain ⟨M12, aM12, eM12, h⟩ := pF_inv h
  refine ew_pFF 3 3 d_XNodes_init_29 fl_XNodes_21 rfl rfl aM12 eM12 (fun ad => ⟨rfl, rfl⟩) ?_
  refine ew_aload_n 0 d_XNodes_init_32 rfl rfl ?_
  refine ew_iload_n 1 d_XNodes_init_33 rfl rfl ?_
  obtain ⟨q13, M14, aq13, bq13, eq13, fq13, h⟩ := mA_inv h
  refine ew_mA1 d_XNodes_init_34 aq13 bq13 eq13 fq13 ?_
  obtain ⟨M15, aM15, eM15, h⟩ := pF_inv h
  refine ew_pFF 3 4 d_XNodes_init_36 fl_XNodes_24 rfl rfl aM15 eM15 (fun ad => ⟨rfl, rfl⟩) ?_
  refine ew_aload_n 0 d_XNodes_init_39 rfl rfl ?_
  refine ew_iload_n 1 d_XNodes_init_40 rfl rfl ?_
  obtain ⟨q16, M17, aq16, bq16, eq16, fq16, h⟩ := mA_inv h
  refine ew_mA0 d_XNodes_init_41 aq16 bq16 eq16 fq16 ?_
  obtain ⟨M18, aM18, eM18, h⟩ := pF_inv h
  refine ew_pFF 3 6 d_XNodes_init_43 fl_XNodes_28 rfl rfl aM18 eM18 (fun ad => ⟨rfl, rfl⟩) ?_
  refine ew_aload_n 0 d_XNodes_init_46 rfl rfl ?_
  refine ew_iload_n 2 d_XNodes_init_47 rfl rfl ?_
  obtain ⟨q19, M20, aq19, bq19, eq19, fq19, h⟩ := mA_inv h
  refine ew_mA0 d_XNodes_init_48 aq19 bq19 eq19 fq19 ?_
  obtain ⟨M21, aM21, eM21, h⟩ := pF_inv h
  refine ew_pFF 3 5 d_XNodes_init_50 fl_XNodes_31 rfl rfl aM21 eM21 (fun ad => ⟨rfl, rfl⟩) ?_
  obtain ⟨hz, hm⟩ := Prod.mk.inj (Option.some.inj h)
  exact ew_return d_XNodes_init_53 rfl hz.symm hm.symm
theorem T_XNodes_init {n : Nat} {l0 : Nat} {l1 : Int32} {l2 : Int32} {M Mf : PM} {res : qRs} (h : F_XNodes_init n l0 l1 l2 M = some (res, Mf)) : CT Y_XNodes_init 1 40 [.ref l0, .int l1, .int l2] M res Mf :=
  CT_of (by decide) (Nat.le_of_ble_eq_true rfl) (qHd_ne (by decide)) (fun g X ad0 => E_XNodes_init (g := g) (X := X) (Z := (ad0, M, res, Mf, 1, 40)) (Nat.le_refl _) (Nat.le_refl _) h)
theorem d_JArrays_fill_0 : decode Y_JArrays_fill.2.1 0 = .ok (.iconst 0, 1) := by decide +kernel
theorem d_JArrays_fill_1 : decode Y_JArrays_fill.2.1 1 = .ok (.istore_n 2, 1) := by decide +kernel
theorem d_JArrays_fill_2 : decode Y_JArrays_fill.2.1 2 = .ok (.aload_n 0, 1) := by decide +kernel
theorem d_JArrays_fill_3 : decode Y_JArrays_fill.2.1 3 = .ok (.arraylength, 1) := by decide +kernel
theorem d_JArrays_fill_4 : decode Y_JArrays_fill.2.1 4 = .ok (.istore_n 3, 1) := by decide +kernel
theorem d_JArrays_fill_5 : decode Y_JArrays_fill.2.1 5 = .ok (.iload_n 2, 1) := by decide +kernel
theorem d_JArrays_fill_6 : decode Y_JArrays_fill.2.1 6 = .ok (.iload_n 3, 1) := by decide +kernel
theorem d_JArrays_fill_7 : decode Y_JArrays_fill.2.1 7 = .ok (.if_icmp .ge (13), 3) := by decide +kernel
theorem d_JArrays_fill_10 : decode Y_JArrays_fill.2.1 10 = .ok (.aload_n 0, 1) := by decide +kernel
theorem d_JArrays_fill_11 : decode Y_JArrays_fill.2.1 11 = .ok (.iload_n 2, 1) := by decide +kernel
theorem d_JArrays_fill_12 : decode Y_JArrays_fill.2.1 12 = .ok (.iload_n 1, 1) := by decide +kernel
theorem d_JArrays_fill_13 : decode Y_JArrays_fill.2.1 13 = .ok (.iastore, 1) := by decide +kernel
theorem d_JArrays_fill_14 : decode Y_JArrays_fill.2.1 14 = .ok (.iinc 2 (1), 3) := by decide +kernel
theorem d_JArrays_fill_17 : decode Y_JArrays_fill.2.1 17 = .ok (.goto (-12), 3) := by decide +kernel
theorem d_JArrays_fill_20 : decode Y_JArrays_fill.2.1 20 = .ok (.return_, 1) := by decide +kernel
def F_JArrays_fill_5 (n : Nat) : Nat → Nat → Int32 → Int32 → Int32 → PM → qO
  | 0, _, _, _, _, _ => none
  | f + 1, l0, l1, l2, l3, M =>
    if l3 ≤ l2 then
      some (.inl none, M)
    else
      wI M l0 l2 l1 (fun M2 =>
      bI (l2 + (1 : Int32)) (fun v3 =>
      (F_JArrays_fill_5 n f) l0 l1 v3 l3 M2))
set_option maxHeartbeats 4000000 in
set_option maxRecDepth 100000 in
theorem E_JArrays_fill_5 {g : qG} {X : qX} {Z : qZ} (hn : 0 ≤ zn Z) (hl : 0 ≤ zl Z) {n : Nat} : ∀ (f : Nat) (l0 : Nat) (l1 : Int32) (l2 : Int32) (l3 : Int32) (M : PM), F_JArrays_fill_5 n f l0 l1 l2 l3 M = some (zr Z, zf Z) → EW Y_JArrays_fill g X Z 5 [(0, .ref l0), (1, .int l1), (2, .int l2), (3, .int l3)] [] M := by
  intro f
  induction f with
  | zero => intro l0 l1 l2 l3 M h; rw [F_JArrays_fill_5] at h; cases h
  | succ f ih =>
    intro l0 l1 l2 l3 M h
    rw [F_JArrays_fill_5] at h
    refine ew_iload_n 2 d_JArrays_fill_5 rfl rfl ?_
    refine ew_iload_n 3 d_JArrays_fill_6 rfl rfl ?_
    refine ew_icmp_ge 20 d_JArrays_fill_7 (by decide) (fun c1 => ?_) (fun c1 => ?_)
    · rw [if_pos c1] at h
      obtain ⟨hz, hm⟩ := Prod.mk.inj (Option.some.inj h)
      exact ew_return d_JArrays_fill_20 rfl hz.symm hm.symm
    · rw [if_neg c1] at h
      refine ew_aload_n 0 d_JArrays_fill_10 rfl rfl ?_
      refine ew_iload_n 2 d_JArrays_fill_11 rfl rfl ?_
      refine ew_iload_n 1 d_JArrays_fill_12 rfl rfl ?_
      obtain ⟨M2, aM2, bM2, cM2, eM2, h⟩ := wI_inv h
      refine ew_wI d_JArrays_fill_13 aM2 bM2 cM2 eM2 ?_
      obtain ⟨v3, ev3, h⟩ := bI_inv h
      refine ew_iinc (L' := [(0, .ref l0), (1, .int l1), (2, .int v3), (3, .int l3)]) v3 [1, 2, 0, 3] d_JArrays_fill_14 rfl (by rw [ev3]; rfl) (by decide) rfl ?_
      refine ew_goto 5 d_JArrays_fill_17 (by decide) ?_
      exact ih l0 l1 v3 l3 M2 h
def F_JArrays_fill (n : Nat) (l0 : Nat) (l1 : Int32) (M : PM) : qO :=
  aL M l0 (fun v1 =>
  F_JArrays_fill_5 n n l0 l1 (0 : Int32) v1 M)
set_option maxHeartbeats 4000000 in
set_option maxRecDepth 100000 in
theorem E_JArrays_fill {g : qG} {X : qX} {Z : qZ} (hn : 0 ≤ zn Z) (hl : 0 ≤ zl Z) {n : Nat} {l0 : Nat} {l1 : Int32} {M : PM} (h : F_JArrays_fill n l0 l1 M = some (zr Z, zf Z)) : EW Y_JArrays_fill g X Z 0 [(0, .ref l0), (1, .int l1)] [] M := by
  unfold F_JArrays_fill at h
  refine ew_iconst (0) d_JArrays_fill_0 (by decide) ?_
  refine ew_istore_n (L' := [(0, .ref l0), (1, .int l1), (2, .int (0 : Int32))]) 2 [1, 2, 0] d_JArrays_fill_1 rfl (by decide) rfl ?_
  refine ew_aload_n 0 d_JArrays_fill_2 rfl rfl ?_
  obtain ⟨v1, av1, ev1, h⟩ := aL_inv h
  refine ew_aL d_JArrays_fill_3 av1 ev1 ?_
  refine ew_istore_n (L' := [(0, .ref l0), (1, .int l1), (2, .int (0 : Int32)), (3, .int v1)]) 3 [1, 2, 3, 0] d_JArrays_fill_4 rfl (by decide) rfl ?_
  exact E_JArrays_fill_5 hn hl n l0 l1 (0 : Int32) v1 M h
theorem T_JArrays_fill {n : Nat} {l0 : Nat} {l1 : Int32} {M Mf : PM} {res : qRs} (h : F_JArrays_fill n l0 l1 M = some (res, Mf)) : CT Y_JArrays_fill 0 0 [.ref l0, .int l1] M res Mf :=
  CT_of (by decide) (Nat.le_of_ble_eq_true rfl) (qHd_ne (by decide)) (fun g X ad0 => E_JArrays_fill (g := g) (X := X) (Z := (ad0, M, res, Mf, 0, 0)) (Nat.le_refl _) (Nat.le_refl _) h)
theorem d_XNodes_isWord_0 : decode Y_XNodes_isWord.2.1 0 = .ok (.iload_n 1, 1) := by decide +kernel
theorem d_XNodes_isWord_1 : decode Y_XNodes_isWord.2.1 1 = .ok (.ifCond .lt (24), 3) := by decide +kernel
theorem d_XNodes_isWord_4 : decode Y_XNodes_isWord.2.1 4 = .ok (.iload_n 1, 1) := by decide +kernel
theorem d_XNodes_isWord_5 : decode Y_XNodes_isWord.2.1 5 = .ok (.aload_n 0, 1) := by decide +kernel
theorem d_XNodes_isWord_6 : decode Y_XNodes_isWord.2.1 6 = .ok (.getfield 40, 3) := by decide +kernel
theorem d_XNodes_isWord_9 : decode Y_XNodes_isWord.2.1 9 = .ok (.if_icmp .ge (16), 3) := by decide +kernel
theorem d_XNodes_isWord_12 : decode Y_XNodes_isWord.2.1 12 = .ok (.aload_n 0, 1) := by decide +kernel
theorem d_XNodes_isWord_13 : decode Y_XNodes_isWord.2.1 13 = .ok (.getfield 24, 3) := by decide +kernel
theorem d_XNodes_isWord_16 : decode Y_XNodes_isWord.2.1 16 = .ok (.iload_n 1, 1) := by decide +kernel
theorem d_XNodes_isWord_17 : decode Y_XNodes_isWord.2.1 17 = .ok (.baload, 1) := by decide +kernel
theorem d_XNodes_isWord_18 : decode Y_XNodes_isWord.2.1 18 = .ok (.ifCond .eq (7), 3) := by decide +kernel
theorem d_XNodes_isWord_21 : decode Y_XNodes_isWord.2.1 21 = .ok (.iconst 1, 1) := by decide +kernel
theorem d_XNodes_isWord_22 : decode Y_XNodes_isWord.2.1 22 = .ok (.goto (4), 3) := by decide +kernel
theorem d_XNodes_isWord_25 : decode Y_XNodes_isWord.2.1 25 = .ok (.iconst 0, 1) := by decide +kernel
theorem d_XNodes_isWord_26 : decode Y_XNodes_isWord.2.1 26 = .ok (.ireturn, 1) := by decide +kernel
def F_XNodes_isWord_26 (n : Nat) (s0 : Int32) (M : PM) : qO :=
  rZ s0 M
set_option maxHeartbeats 4000000 in
set_option maxRecDepth 100000 in
theorem E_XNodes_isWord_26 {g : qG} {X : qX} {Z : qZ} (hn : 0 ≤ zn Z) (hl : 0 ≤ zl Z) {n : Nat} {s0 : Int32} {M : PM} (h : F_XNodes_isWord_26 n s0 M = some (zr Z, zf Z)) : EW Y_XNodes_isWord g X Z 26 [] [.int s0] M := by
  unfold F_XNodes_isWord_26 at h
  obtain ⟨hb, h⟩ := rZ_inv h
  obtain ⟨hz, hm⟩ := Prod.mk.inj (Option.some.inj h)
  exact ew_zreturn d_XNodes_isWord_26 rfl hz.symm hm.symm hb
def F_XNodes_isWord_25 (n : Nat) (M : PM) : qO :=
  F_XNodes_isWord_26 n (0 : Int32) M
set_option maxHeartbeats 4000000 in
set_option maxRecDepth 100000 in
theorem E_XNodes_isWord_25 {g : qG} {X : qX} {Z : qZ} (hn : 0 ≤ zn Z) (hl : 0 ≤ zl Z) {n : Nat} {M : PM} (h : F_XNodes_isWord_25 n M = some (zr Z, zf Z)) : EW Y_XNodes_isWord g X Z 25 [] [] M := by
  unfold F_XNodes_isWord_25 at h
  refine ew_iconst (0) d_XNodes_isWord_25 (by decide) ?_
  exact E_XNodes_isWord_26 hn hl h
def F_XNodes_isWord (n : Nat) (l0 : Nat) (l1 : Int32) (M : PM) : qO :=
  if l1 < (0 : Int32) then
    F_XNodes_isWord_25 n M
  else
    gI 3 M l0 7 (fun v2 =>
    if v2 ≤ l1 then
      F_XNodes_isWord_25 n M
    else
      gR 3 M l0 4 (fun v4 =>
      lZ M v4 l1 (fun v5 =>
      if v5 = (0 : Int32) then
        F_XNodes_isWord_25 n M
      else
        F_XNodes_isWord_26 n (1 : Int32) M)))
set_option maxHeartbeats 4000000 in
set_option maxRecDepth 100000 in
theorem E_XNodes_isWord {g : qG} {X : qX} {Z : qZ} (hn : 0 ≤ zn Z) (hl : 0 ≤ zl Z) {n : Nat} {l0 : Nat} {l1 : Int32} {M : PM} (h : F_XNodes_isWord n l0 l1 M = some (zr Z, zf Z)) : EW Y_XNodes_isWord g X Z 0 [(0, .ref l0), (1, .int l1)] [] M := by
  unfold F_XNodes_isWord at h
  refine ew_iload_n 1 d_XNodes_isWord_0 rfl rfl ?_
  refine ew_if_lt 25 d_XNodes_isWord_1 (by decide) (fun c1 => ?_) (fun c1 => ?_)
  · rw [if_pos c1] at h
    exact ew_pick (L' := []) [] rfl (E_XNodes_isWord_25 hn hl h)
  · rw [if_neg c1] at h
    refine ew_iload_n 1 d_XNodes_isWord_4 rfl rfl ?_
    refine ew_aload_n 0 d_XNodes_isWord_5 rfl rfl ?_
    obtain ⟨v2, av2, bv2, h⟩ := gI_inv h
    refine ew_gI 3 7 d_XNodes_isWord_6 fl_XNodes_40 av2 bv2 ?_
    refine ew_icmp_ge 25 d_XNodes_isWord_9 (by decide) (fun c3 => ?_) (fun c3 => ?_)
    · rw [if_pos c3] at h
      exact ew_pick (L' := []) [] rfl (E_XNodes_isWord_25 hn hl h)
    · rw [if_neg c3] at h
      refine ew_aload_n 0 d_XNodes_isWord_12 rfl rfl ?_
      obtain ⟨v4, av4, bv4, h⟩ := gR_inv h
      refine ew_gR 3 4 d_XNodes_isWord_13 fl_XNodes_24 av4 bv4 ?_
      refine ew_iload_n 1 d_XNodes_isWord_16 rfl rfl ?_
      obtain ⟨v5, av5, bv5, cv5, ev5, h⟩ := lZ_inv h
      refine ew_lZ d_XNodes_isWord_17 av5 bv5 cv5 ev5 ?_
      refine ew_if_eq 25 d_XNodes_isWord_18 (by decide) (fun c6 => ?_) (fun c6 => ?_)
      · rw [if_pos c6] at h
        exact ew_pick (L' := []) [] rfl (E_XNodes_isWord_25 hn hl h)
      · rw [if_neg c6] at h
        refine ew_iconst (1) d_XNodes_isWord_21 (by decide) ?_
        refine ew_goto 26 d_XNodes_isWord_22 (by decide) ?_
        exact ew_pick (L' := []) [] rfl (E_XNodes_isWord_26 hn hl h)
theorem T_XNodes_isWord {n : Nat} {l0 : Nat} {l1 : Int32} {M Mf : PM} {res : qRs} (h : F_XNodes_isWord n l0 l1 M = some (res, Mf)) : CT Y_XNodes_isWord 0 0 [.ref l0, .int l1] M res Mf :=
  CT_of (by decide) (Nat.le_of_ble_eq_true rfl) (qHd_ne (by decide)) (fun g X ad0 => E_XNodes_isWord (g := g) (X := X) (Z := (ad0, M, res, Mf, 0, 0)) (Nat.le_refl _) (Nat.le_refl _) h)
theorem d_XNodes_put_0 : decode Y_XNodes_put.2.1 0 = .ok (.iload_n 1, 1) := by decide +kernel
theorem d_XNodes_put_1 : decode Y_XNodes_put.2.1 1 = .ok (.bipush (31), 2) := by decide +kernel
theorem d_XNodes_put_3 : decode Y_XNodes_put.2.1 3 = .ok (.imul, 1) := by decide +kernel
theorem d_XNodes_put_4 : decode Y_XNodes_put.2.1 4 = .ok (.iload_n 2, 1) := by decide +kernel
theorem d_XNodes_put_5 : decode Y_XNodes_put.2.1 5 = .ok (.iadd, 1) := by decide +kernel
theorem d_XNodes_put_6 : decode Y_XNodes_put.2.1 6 = .ok (.sipush (131), 3) := by decide +kernel
theorem d_XNodes_put_9 : decode Y_XNodes_put.2.1 9 = .ok (.imul, 1) := by decide +kernel
theorem d_XNodes_put_10 : decode Y_XNodes_put.2.1 10 = .ok (.iload_n 3, 1) := by decide +kernel
theorem d_XNodes_put_11 : decode Y_XNodes_put.2.1 11 = .ok (.iadd, 1) := by decide +kernel
theorem d_XNodes_put_12 : decode Y_XNodes_put.2.1 12 = .ok (.sipush (523), 3) := by decide +kernel
theorem d_XNodes_put_15 : decode Y_XNodes_put.2.1 15 = .ok (.imul, 1) := by decide +kernel
theorem d_XNodes_put_16 : decode Y_XNodes_put.2.1 16 = .ok (.iload 4, 2) := by decide +kernel
theorem d_XNodes_put_18 : decode Y_XNodes_put.2.1 18 = .ok (.iadd, 1) := by decide +kernel
theorem d_XNodes_put_19 : decode Y_XNodes_put.2.1 19 = .ok (.istore 5, 2) := by decide +kernel
theorem d_XNodes_put_21 : decode Y_XNodes_put.2.1 21 = .ok (.iload 5, 2) := by decide +kernel
theorem d_XNodes_put_23 : decode Y_XNodes_put.2.1 23 = .ok (.iload 5, 2) := by decide +kernel
theorem d_XNodes_put_25 : decode Y_XNodes_put.2.1 25 = .ok (.bipush (13), 2) := by decide +kernel
theorem d_XNodes_put_27 : decode Y_XNodes_put.2.1 27 = .ok (.iushr, 1) := by decide +kernel
theorem d_XNodes_put_28 : decode Y_XNodes_put.2.1 28 = .ok (.ixor, 1) := by decide +kernel
theorem d_XNodes_put_29 : decode Y_XNodes_put.2.1 29 = .ok (.aload_n 0, 1) := by decide +kernel
theorem d_XNodes_put_30 : decode Y_XNodes_put.2.1 30 = .ok (.getfield 31, 3) := by decide +kernel
theorem d_XNodes_put_33 : decode Y_XNodes_put.2.1 33 = .ok (.arraylength, 1) := by decide +kernel
theorem d_XNodes_put_34 : decode Y_XNodes_put.2.1 34 = .ok (.iconst 1, 1) := by decide +kernel
theorem d_XNodes_put_35 : decode Y_XNodes_put.2.1 35 = .ok (.isub, 1) := by decide +kernel
theorem d_XNodes_put_36 : decode Y_XNodes_put.2.1 36 = .ok (.iand, 1) := by decide +kernel
theorem d_XNodes_put_37 : decode Y_XNodes_put.2.1 37 = .ok (.istore 6, 2) := by decide +kernel
theorem d_XNodes_put_39 : decode Y_XNodes_put.2.1 39 = .ok (.aload_n 0, 1) := by decide +kernel
theorem d_XNodes_put_40 : decode Y_XNodes_put.2.1 40 = .ok (.getfield 31, 3) := by decide +kernel
theorem d_XNodes_put_43 : decode Y_XNodes_put.2.1 43 = .ok (.iload 6, 2) := by decide +kernel
theorem d_XNodes_put_45 : decode Y_XNodes_put.2.1 45 = .ok (.iaload, 1) := by decide +kernel
theorem d_XNodes_put_46 : decode Y_XNodes_put.2.1 46 = .ok (.iconst 1, 1) := by decide +kernel
theorem d_XNodes_put_47 : decode Y_XNodes_put.2.1 47 = .ok (.isub, 1) := by decide +kernel
theorem d_XNodes_put_48 : decode Y_XNodes_put.2.1 48 = .ok (.istore 7, 2) := by decide +kernel
theorem d_XNodes_put_50 : decode Y_XNodes_put.2.1 50 = .ok (.aload_n 0, 1) := by decide +kernel
theorem d_XNodes_put_51 : decode Y_XNodes_put.2.1 51 = .ok (.getfield 40, 3) := by decide +kernel
theorem d_XNodes_put_54 : decode Y_XNodes_put.2.1 54 = .ok (.istore 8, 2) := by decide +kernel
theorem d_XNodes_put_56 : decode Y_XNodes_put.2.1 56 = .ok (.iload 8, 2) := by decide +kernel
theorem d_XNodes_put_58 : decode Y_XNodes_put.2.1 58 = .ok (.ifCond .le (71), 3) := by decide +kernel
theorem d_XNodes_put_61 : decode Y_XNodes_put.2.1 61 = .ok (.iload 7, 2) := by decide +kernel
theorem d_XNodes_put_63 : decode Y_XNodes_put.2.1 63 = .ok (.ifCond .lt (66), 3) := by decide +kernel
theorem d_XNodes_put_66 : decode Y_XNodes_put.2.1 66 = .ok (.aload_n 0, 1) := by decide +kernel
theorem d_XNodes_put_67 : decode Y_XNodes_put.2.1 67 = .ok (.getfield 9, 3) := by decide +kernel
theorem d_XNodes_put_70 : decode Y_XNodes_put.2.1 70 = .ok (.iload 7, 2) := by decide +kernel
theorem d_XNodes_put_72 : decode Y_XNodes_put.2.1 72 = .ok (.iaload, 1) := by decide +kernel
theorem d_XNodes_put_73 : decode Y_XNodes_put.2.1 73 = .ok (.iload_n 1, 1) := by decide +kernel
theorem d_XNodes_put_74 : decode Y_XNodes_put.2.1 74 = .ok (.if_icmp .ne (40), 3) := by decide +kernel
theorem d_XNodes_put_77 : decode Y_XNodes_put.2.1 77 = .ok (.aload_n 0, 1) := by decide +kernel
theorem d_XNodes_put_78 : decode Y_XNodes_put.2.1 78 = .ok (.getfield 15, 3) := by decide +kernel
theorem d_XNodes_put_81 : decode Y_XNodes_put.2.1 81 = .ok (.iload 7, 2) := by decide +kernel
theorem d_XNodes_put_83 : decode Y_XNodes_put.2.1 83 = .ok (.iaload, 1) := by decide +kernel
theorem d_XNodes_put_84 : decode Y_XNodes_put.2.1 84 = .ok (.iload_n 2, 1) := by decide +kernel
theorem d_XNodes_put_85 : decode Y_XNodes_put.2.1 85 = .ok (.if_icmp .ne (29), 3) := by decide +kernel
theorem d_XNodes_put_88 : decode Y_XNodes_put.2.1 88 = .ok (.aload_n 0, 1) := by decide +kernel
theorem d_XNodes_put_89 : decode Y_XNodes_put.2.1 89 = .ok (.getfield 18, 3) := by decide +kernel
theorem d_XNodes_put_92 : decode Y_XNodes_put.2.1 92 = .ok (.iload 7, 2) := by decide +kernel
theorem d_XNodes_put_94 : decode Y_XNodes_put.2.1 94 = .ok (.iaload, 1) := by decide +kernel
theorem d_XNodes_put_95 : decode Y_XNodes_put.2.1 95 = .ok (.iload_n 3, 1) := by decide +kernel
theorem d_XNodes_put_96 : decode Y_XNodes_put.2.1 96 = .ok (.if_icmp .ne (18), 3) := by decide +kernel
theorem d_XNodes_put_99 : decode Y_XNodes_put.2.1 99 = .ok (.aload_n 0, 1) := by decide +kernel
theorem d_XNodes_put_100 : decode Y_XNodes_put.2.1 100 = .ok (.getfield 21, 3) := by decide +kernel
theorem d_XNodes_put_103 : decode Y_XNodes_put.2.1 103 = .ok (.iload 7, 2) := by decide +kernel
theorem d_XNodes_put_105 : decode Y_XNodes_put.2.1 105 = .ok (.iaload, 1) := by decide +kernel
theorem d_XNodes_put_106 : decode Y_XNodes_put.2.1 106 = .ok (.iload 4, 2) := by decide +kernel
theorem d_XNodes_put_108 : decode Y_XNodes_put.2.1 108 = .ok (.if_icmp .ne (6), 3) := by decide +kernel
theorem d_XNodes_put_111 : decode Y_XNodes_put.2.1 111 = .ok (.iload 7, 2) := by decide +kernel
theorem d_XNodes_put_113 : decode Y_XNodes_put.2.1 113 = .ok (.ireturn, 1) := by decide +kernel
theorem d_XNodes_put_114 : decode Y_XNodes_put.2.1 114 = .ok (.aload_n 0, 1) := by decide +kernel
theorem d_XNodes_put_115 : decode Y_XNodes_put.2.1 115 = .ok (.getfield 28, 3) := by decide +kernel
theorem d_XNodes_put_118 : decode Y_XNodes_put.2.1 118 = .ok (.iload 7, 2) := by decide +kernel
theorem d_XNodes_put_120 : decode Y_XNodes_put.2.1 120 = .ok (.iaload, 1) := by decide +kernel
theorem d_XNodes_put_121 : decode Y_XNodes_put.2.1 121 = .ok (.istore 7, 2) := by decide +kernel
theorem d_XNodes_put_123 : decode Y_XNodes_put.2.1 123 = .ok (.iinc 8 (-1), 3) := by decide +kernel
theorem d_XNodes_put_126 : decode Y_XNodes_put.2.1 126 = .ok (.goto (-70), 3) := by decide +kernel
theorem d_XNodes_put_129 : decode Y_XNodes_put.2.1 129 = .ok (.aload_n 0, 1) := by decide +kernel
theorem d_XNodes_put_130 : decode Y_XNodes_put.2.1 130 = .ok (.getfield 40, 3) := by decide +kernel
theorem d_XNodes_put_133 : decode Y_XNodes_put.2.1 133 = .ok (.aload_n 0, 1) := by decide +kernel
theorem d_XNodes_put_134 : decode Y_XNodes_put.2.1 134 = .ok (.getfield 9, 3) := by decide +kernel
theorem d_XNodes_put_137 : decode Y_XNodes_put.2.1 137 = .ok (.arraylength, 1) := by decide +kernel
theorem d_XNodes_put_138 : decode Y_XNodes_put.2.1 138 = .ok (.if_icmp .lt (5), 3) := by decide +kernel
theorem d_XNodes_put_141 : decode Y_XNodes_put.2.1 141 = .ok (.iconst (-1), 1) := by decide +kernel
theorem d_XNodes_put_142 : decode Y_XNodes_put.2.1 142 = .ok (.ireturn, 1) := by decide +kernel
theorem d_XNodes_put_143 : decode Y_XNodes_put.2.1 143 = .ok (.aload_n 0, 1) := by decide +kernel
theorem d_XNodes_put_144 : decode Y_XNodes_put.2.1 144 = .ok (.getfield 40, 3) := by decide +kernel
theorem d_XNodes_put_147 : decode Y_XNodes_put.2.1 147 = .ok (.istore 7, 2) := by decide +kernel
theorem d_XNodes_put_149 : decode Y_XNodes_put.2.1 149 = .ok (.aload_n 0, 1) := by decide +kernel
theorem d_XNodes_put_150 : decode Y_XNodes_put.2.1 150 = .ok (.dup, 1) := by decide +kernel
theorem d_XNodes_put_151 : decode Y_XNodes_put.2.1 151 = .ok (.getfield 40, 3) := by decide +kernel
theorem d_XNodes_put_154 : decode Y_XNodes_put.2.1 154 = .ok (.iconst 1, 1) := by decide +kernel
theorem d_XNodes_put_155 : decode Y_XNodes_put.2.1 155 = .ok (.iadd, 1) := by decide +kernel
theorem d_XNodes_put_156 : decode Y_XNodes_put.2.1 156 = .ok (.putfield 40, 3) := by decide +kernel
theorem d_XNodes_put_159 : decode Y_XNodes_put.2.1 159 = .ok (.aload_n 0, 1) := by decide +kernel
theorem d_XNodes_put_160 : decode Y_XNodes_put.2.1 160 = .ok (.getfield 9, 3) := by decide +kernel
theorem d_XNodes_put_163 : decode Y_XNodes_put.2.1 163 = .ok (.iload 7, 2) := by decide +kernel
theorem d_XNodes_put_165 : decode Y_XNodes_put.2.1 165 = .ok (.iload_n 1, 1) := by decide +kernel
theorem d_XNodes_put_166 : decode Y_XNodes_put.2.1 166 = .ok (.iastore, 1) := by decide +kernel
theorem d_XNodes_put_167 : decode Y_XNodes_put.2.1 167 = .ok (.aload_n 0, 1) := by decide +kernel
theorem d_XNodes_put_168 : decode Y_XNodes_put.2.1 168 = .ok (.getfield 15, 3) := by decide +kernel
theorem d_XNodes_put_171 : decode Y_XNodes_put.2.1 171 = .ok (.iload 7, 2) := by decide +kernel
theorem d_XNodes_put_173 : decode Y_XNodes_put.2.1 173 = .ok (.iload_n 2, 1) := by decide +kernel
theorem d_XNodes_put_174 : decode Y_XNodes_put.2.1 174 = .ok (.iastore, 1) := by decide +kernel
theorem d_XNodes_put_175 : decode Y_XNodes_put.2.1 175 = .ok (.aload_n 0, 1) := by decide +kernel
theorem d_XNodes_put_176 : decode Y_XNodes_put.2.1 176 = .ok (.getfield 18, 3) := by decide +kernel
theorem d_XNodes_put_179 : decode Y_XNodes_put.2.1 179 = .ok (.iload 7, 2) := by decide +kernel
theorem d_XNodes_put_181 : decode Y_XNodes_put.2.1 181 = .ok (.iload_n 3, 1) := by decide +kernel
theorem d_XNodes_put_182 : decode Y_XNodes_put.2.1 182 = .ok (.iastore, 1) := by decide +kernel
theorem d_XNodes_put_183 : decode Y_XNodes_put.2.1 183 = .ok (.aload_n 0, 1) := by decide +kernel
theorem d_XNodes_put_184 : decode Y_XNodes_put.2.1 184 = .ok (.getfield 21, 3) := by decide +kernel
theorem d_XNodes_put_187 : decode Y_XNodes_put.2.1 187 = .ok (.iload 7, 2) := by decide +kernel
theorem d_XNodes_put_189 : decode Y_XNodes_put.2.1 189 = .ok (.iload 4, 2) := by decide +kernel
theorem d_XNodes_put_191 : decode Y_XNodes_put.2.1 191 = .ok (.iastore, 1) := by decide +kernel
theorem d_XNodes_put_192 : decode Y_XNodes_put.2.1 192 = .ok (.aload_n 0, 1) := by decide +kernel
theorem d_XNodes_put_193 : decode Y_XNodes_put.2.1 193 = .ok (.getfield 28, 3) := by decide +kernel
theorem d_XNodes_put_196 : decode Y_XNodes_put.2.1 196 = .ok (.iload 7, 2) := by decide +kernel
theorem d_XNodes_put_198 : decode Y_XNodes_put.2.1 198 = .ok (.aload_n 0, 1) := by decide +kernel
theorem d_XNodes_put_199 : decode Y_XNodes_put.2.1 199 = .ok (.getfield 31, 3) := by decide +kernel
theorem d_XNodes_put_202 : decode Y_XNodes_put.2.1 202 = .ok (.iload 6, 2) := by decide +kernel
theorem d_XNodes_put_204 : decode Y_XNodes_put.2.1 204 = .ok (.iaload, 1) := by decide +kernel
theorem d_XNodes_put_205 : decode Y_XNodes_put.2.1 205 = .ok (.iconst 1, 1) := by decide +kernel
theorem d_XNodes_put_206 : decode Y_XNodes_put.2.1 206 = .ok (.isub, 1) := by decide +kernel
theorem d_XNodes_put_207 : decode Y_XNodes_put.2.1 207 = .ok (.iastore, 1) := by decide +kernel
theorem d_XNodes_put_208 : decode Y_XNodes_put.2.1 208 = .ok (.aload_n 0, 1) := by decide +kernel
theorem d_XNodes_put_209 : decode Y_XNodes_put.2.1 209 = .ok (.getfield 31, 3) := by decide +kernel
theorem d_XNodes_put_212 : decode Y_XNodes_put.2.1 212 = .ok (.iload 6, 2) := by decide +kernel
theorem d_XNodes_put_214 : decode Y_XNodes_put.2.1 214 = .ok (.iload 7, 2) := by decide +kernel
theorem d_XNodes_put_216 : decode Y_XNodes_put.2.1 216 = .ok (.iconst 1, 1) := by decide +kernel
theorem d_XNodes_put_217 : decode Y_XNodes_put.2.1 217 = .ok (.iadd, 1) := by decide +kernel
theorem d_XNodes_put_218 : decode Y_XNodes_put.2.1 218 = .ok (.iastore, 1) := by decide +kernel
theorem d_XNodes_put_219 : decode Y_XNodes_put.2.1 219 = .ok (.aload_n 0, 1) := by decide +kernel
theorem d_XNodes_put_220 : decode Y_XNodes_put.2.1 220 = .ok (.getfield 24, 3) := by decide +kernel
theorem d_XNodes_put_223 : decode Y_XNodes_put.2.1 223 = .ok (.iload 7, 2) := by decide +kernel
theorem d_XNodes_put_225 : decode Y_XNodes_put.2.1 225 = .ok (.iload_n 1, 1) := by decide +kernel
theorem d_XNodes_put_226 : decode Y_XNodes_put.2.1 226 = .ok (.iconst 3, 1) := by decide +kernel
theorem d_XNodes_put_227 : decode Y_XNodes_put.2.1 227 = .ok (.if_icmp .eq (22), 3) := by decide +kernel
theorem d_XNodes_put_230 : decode Y_XNodes_put.2.1 230 = .ok (.iload_n 1, 1) := by decide +kernel
theorem d_XNodes_put_231 : decode Y_XNodes_put.2.1 231 = .ok (.iconst 5, 1) := by decide +kernel
theorem d_XNodes_put_232 : decode Y_XNodes_put.2.1 232 = .ok (.if_icmp .eq (17), 3) := by decide +kernel
theorem d_XNodes_put_235 : decode Y_XNodes_put.2.1 235 = .ok (.iload_n 1, 1) := by decide +kernel
theorem d_XNodes_put_236 : decode Y_XNodes_put.2.1 236 = .ok (.bipush (9), 2) := by decide +kernel
theorem d_XNodes_put_238 : decode Y_XNodes_put.2.1 238 = .ok (.if_icmp .ne (15), 3) := by decide +kernel
theorem d_XNodes_put_241 : decode Y_XNodes_put.2.1 241 = .ok (.aload_n 0, 1) := by decide +kernel
theorem d_XNodes_put_242 : decode Y_XNodes_put.2.1 242 = .ok (.iload_n 3, 1) := by decide +kernel
theorem d_XNodes_put_243 : decode Y_XNodes_put.2.1 243 = .ok (.invokevirtual 61, 3) := by decide +kernel
theorem d_XNodes_put_246 : decode Y_XNodes_put.2.1 246 = .ok (.ifCond .eq (7), 3) := by decide +kernel
theorem d_XNodes_put_249 : decode Y_XNodes_put.2.1 249 = .ok (.iconst 1, 1) := by decide +kernel
theorem d_XNodes_put_250 : decode Y_XNodes_put.2.1 250 = .ok (.goto (4), 3) := by decide +kernel
theorem d_XNodes_put_253 : decode Y_XNodes_put.2.1 253 = .ok (.iconst 0, 1) := by decide +kernel
theorem d_XNodes_put_254 : decode Y_XNodes_put.2.1 254 = .ok (.bastore, 1) := by decide +kernel
theorem d_XNodes_put_255 : decode Y_XNodes_put.2.1 255 = .ok (.iload 7, 2) := by decide +kernel
theorem d_XNodes_put_257 : decode Y_XNodes_put.2.1 257 = .ok (.ireturn, 1) := by decide +kernel
def F_XNodes_put_254 (n : Nat) (l7 : Int32) (s0 : Nat) (s1 : Int32) (s2 : Int32) (M : PM) : qO :=
  wZ M s0 s1 s2 (fun M1 =>
  some (.inl (some (.int l7)), M1))
set_option maxHeartbeats 4000000 in
set_option maxRecDepth 100000 in
theorem E_XNodes_put_254 {g : qG} {X : qX} {Z : qZ} (hn : 1 ≤ zn Z) (hl : 21 ≤ zl Z) {n : Nat} {l7 : Int32} {s0 : Nat} {s1 : Int32} {s2 : Int32} {M : PM} (h : F_XNodes_put_254 n l7 s0 s1 s2 M = some (zr Z, zf Z)) : EW Y_XNodes_put g X Z 254 [(7, .int l7)] [.int s2, .int s1, .ref s0] M := by
  unfold F_XNodes_put_254 at h
  obtain ⟨M1, aM1, bM1, cM1, eM1, h⟩ := wZ_inv h
  refine ew_wZ d_XNodes_put_254 aM1 bM1 cM1 eM1 ?_
  refine ew_iload d_XNodes_put_255 rfl ?_
  obtain ⟨hz, hm⟩ := Prod.mk.inj (Option.some.inj h)
  exact ew_ireturn d_XNodes_put_257 rfl hz.symm hm.symm
def F_XNodes_put_249 (n : Nat) (l7 : Int32) (s0 : Nat) (s1 : Int32) (M : PM) : qO :=
  F_XNodes_put_254 n l7 s0 s1 (1 : Int32) M
set_option maxHeartbeats 4000000 in
set_option maxRecDepth 100000 in
theorem E_XNodes_put_249 {g : qG} {X : qX} {Z : qZ} (hn : 1 ≤ zn Z) (hl : 21 ≤ zl Z) {n : Nat} {l7 : Int32} {s0 : Nat} {s1 : Int32} {M : PM} (h : F_XNodes_put_249 n l7 s0 s1 M = some (zr Z, zf Z)) : EW Y_XNodes_put g X Z 249 [(7, .int l7)] [.int s1, .ref s0] M := by
  unfold F_XNodes_put_249 at h
  refine ew_iconst (1) d_XNodes_put_249 (by decide) ?_
  refine ew_goto 254 d_XNodes_put_250 (by decide) ?_
  exact E_XNodes_put_254 hn hl h
def F_XNodes_put_253 (n : Nat) (l7 : Int32) (s0 : Nat) (s1 : Int32) (M : PM) : qO :=
  F_XNodes_put_254 n l7 s0 s1 (0 : Int32) M
set_option maxHeartbeats 4000000 in
set_option maxRecDepth 100000 in
theorem E_XNodes_put_253 {g : qG} {X : qX} {Z : qZ} (hn : 1 ≤ zn Z) (hl : 21 ≤ zl Z) {n : Nat} {l7 : Int32} {s0 : Nat} {s1 : Int32} {M : PM} (h : F_XNodes_put_253 n l7 s0 s1 M = some (zr Z, zf Z)) : EW Y_XNodes_put g X Z 253 [(7, .int l7)] [.int s1, .ref s0] M := by
  unfold F_XNodes_put_253 at h
  refine ew_iconst (0) d_XNodes_put_253 (by decide) ?_
  exact E_XNodes_put_254 hn hl h
def F_XNodes_put_129 (n : Nat) (l0 : Nat) (l1 : Int32) (l2 : Int32) (l3 : Int32) (l4 : Int32) (l6 : Int32) (M : PM) : qO :=
  gI 3 M l0 7 (fun v1 =>
  gR 3 M l0 0 (fun v2 =>
  aL M v2 (fun v3 =>
  if v1 < v3 then
    gI 3 M l0 7 (fun v5 =>
    gI 3 M l0 7 (fun v6 =>
    pF 3 M l0 7 (.int (v6 + (1 : Int32))) (fun M7 =>
    gR 3 M7 l0 0 (fun v8 =>
    wI M7 v8 v5 l1 (fun M9 =>
    gR 3 M9 l0 1 (fun v10 =>
    wI M9 v10 v5 l2 (fun M11 =>
    gR 3 M11 l0 2 (fun v12 =>
    wI M11 v12 v5 l3 (fun M13 =>
    gR 3 M13 l0 3 (fun v14 =>
    wI M13 v14 v5 l4 (fun M15 =>
    gR 3 M15 l0 6 (fun v16 =>
    gR 3 M15 l0 5 (fun v17 =>
    lI M15 v17 l6 (fun v18 =>
    wI M15 v16 v5 (v18 - (1 : Int32)) (fun M19 =>
    gR 3 M19 l0 5 (fun v20 =>
    wI M19 v20 l6 (v5 + (1 : Int32)) (fun M21 =>
    gR 3 M21 l0 4 (fun v22 =>
    if l1 = (3 : Int32) then
      F_XNodes_put_249 n v5 v22 v5 M21
    else
      if l1 = (5 : Int32) then
        F_XNodes_put_249 n v5 v22 v5 M21
      else
        if l1 = (9 : Int32) then
          kO 3 M21 l0 (
          cI (F_XNodes_isWord n l0 l3 M21) (fun v27 M26 =>
          if v27 = (0 : Int32) then
            F_XNodes_put_253 n v5 v22 v5 M26
          else
            F_XNodes_put_249 n v5 v22 v5 M26))
        else
          F_XNodes_put_253 n v5 v22 v5 M21))))))))))))))))))
  else
    some (.inl (some (.int (-1 : Int32))), M))))
set_option maxHeartbeats 4000000 in
set_option maxRecDepth 100000 in
theorem E_XNodes_put_129 {g : qG} {X : qX} {Z : qZ} (hn : 1 ≤ zn Z) (hl : 21 ≤ zl Z) {n : Nat} {l0 : Nat} {l1 : Int32} {l2 : Int32} {l3 : Int32} {l4 : Int32} {l6 : Int32} {M : PM} (h : F_XNodes_put_129 n l0 l1 l2 l3 l4 l6 M = some (zr Z, zf Z)) : EW Y_XNodes_put g X Z 129 [(0, .ref l0), (1, .int l1), (2, .int l2), (3, .int l3), (4, .int l4), (6, .int l6)] [] M := by
  unfold F_XNodes_put_129 at h
  refine ew_aload_n 0 d_XNodes_put_129 rfl rfl ?_
  obtain ⟨v1, av1, bv1, h⟩ := gI_inv h
  refine ew_gI 3 7 d_XNodes_put_130 fl_XNodes_40 av1 bv1 ?_
  refine ew_aload_n 0 d_XNodes_put_133 rfl rfl ?_
  obtain ⟨v2, av2, bv2, h⟩ := gR_inv h
  refine ew_gR 3 0 d_XNodes_put_134 fl_XNodes_9 av2 bv2 ?_
  obtain ⟨v3, av3, ev3, h⟩ := aL_inv h
  refine ew_aL d_XNodes_put_137 av3 ev3 ?_
  refine ew_icmp_lt 143 d_XNodes_put_138 (by decide) (fun c4 => ?_) (fun c4 => ?_)
  · rw [if_pos c4] at h
    refine ew_aload_n 0 d_XNodes_put_143 rfl rfl ?_
    obtain ⟨v5, av5, bv5, h⟩ := gI_inv h
    refine ew_gI 3 7 d_XNodes_put_144 fl_XNodes_40 av5 bv5 ?_
    refine ew_istore (L' := [(0, .ref l0), (1, .int l1), (2, .int l2), (3, .int l3), (4, .int l4), (6, .int l6), (7, .int v5)]) [1, 2, 3, 4, 5, 6, 0] d_XNodes_put_147 (by decide) rfl ?_
    refine ew_aload_n 0 d_XNodes_put_149 rfl rfl ?_
    refine ew_dup d_XNodes_put_150 rfl ?_
    obtain ⟨v6, av6, bv6, h⟩ := gI_inv h
    refine ew_gI 3 7 d_XNodes_put_151 fl_XNodes_40 av6 bv6 ?_
    refine ew_iconst (1) d_XNodes_put_154 (by decide) ?_
    refine ew_iadd d_XNodes_put_155 ?_
    obtain ⟨M7, aM7, eM7, h⟩ := pF_inv h
    refine ew_pF 3 7 d_XNodes_put_156 fl_XNodes_40 aM7 eM7 (fun ad => ⟨rfl, rfl⟩) ?_
    refine ew_aload_n 0 d_XNodes_put_159 rfl rfl ?_
    obtain ⟨v8, av8, bv8, h⟩ := gR_inv h
    refine ew_gR 3 0 d_XNodes_put_160 fl_XNodes_9 av8 bv8 ?_
    refine ew_iload d_XNodes_put_163 rfl ?_
    refine ew_iload_n 1 d_XNodes_put_165 rfl rfl ?_
    obtain ⟨M9, aM9, bM9, cM9, eM9, h⟩ := wI_inv h
    refine ew_wI d_XNodes_put_166 aM9 bM9 cM9 eM9 ?_
    refine ew_aload_n 0 d_XNodes_put_167 rfl rfl ?_
    obtain ⟨v10, av10, bv10, h⟩ := gR_inv h
    refine ew_gR 3 1 d_XNodes_put_168 fl_XNodes_15 av10 bv10 ?_
    refine ew_iload d_XNodes_put_171 rfl ?_
    refine ew_iload_n 2 d_XNodes_put_173 rfl rfl ?_
    obtain ⟨M11, aM11, bM11, cM11, eM11, h⟩ := wI_inv h
    refine ew_wI d_XNodes_put_174 aM11 bM11 cM11 eM11 ?_
    refine ew_aload_n 0 d_XNodes_put_175 rfl rfl ?_
    obtain ⟨v12, av12, bv12, h⟩ := gR_inv h
    refine ew_gR 3 2 d_XNodes_put_176 fl_XNodes_18 av12 bv12 ?_
    refine ew_iload d_XNodes_put_179 rfl ?_
    refine ew_iload_n 3 d_XNodes_put_181 rfl rfl ?_
    obtain ⟨M13, aM13, bM13, cM13, eM13, h⟩ := wI_inv h
    refine ew_wI d_XNodes_put_182 aM13 bM13 cM13 eM13 ?_
    refine ew_aload_n 0 d_XNodes_put_183 rfl rfl ?_
    obtain ⟨v14, av14, bv14, h⟩ := gR_inv h
    refine ew_gR 3 3 d_XNodes_put_184 fl_XNodes_21 av14 bv14 ?_
    refine ew_iload d_XNodes_put_187 rfl ?_
    refine ew_iload d_XNodes_put_189 rfl ?_
    obtain ⟨M15, aM15, bM15, cM15, eM15, h⟩ := wI_inv h
    refine ew_wI d_XNodes_put_191 aM15 bM15 cM15 eM15 ?_
    refine ew_aload_n 0 d_XNodes_put_192 rfl rfl ?_
    obtain ⟨v16, av16, bv16, h⟩ := gR_inv h
    refine ew_gR 3 6 d_XNodes_put_193 fl_XNodes_28 av16 bv16 ?_
    refine ew_iload d_XNodes_put_196 rfl ?_
    refine ew_aload_n 0 d_XNodes_put_198 rfl rfl ?_
    obtain ⟨v17, av17, bv17, h⟩ := gR_inv h
    refine ew_gR 3 5 d_XNodes_put_199 fl_XNodes_31 av17 bv17 ?_
    refine ew_iload d_XNodes_put_202 rfl ?_
    obtain ⟨v18, av18, bv18, cv18, ev18, h⟩ := lI_inv h
    refine ew_lI d_XNodes_put_204 av18 bv18 cv18 ev18 ?_
    refine ew_iconst (1) d_XNodes_put_205 (by decide) ?_
    refine ew_isub d_XNodes_put_206 ?_
    obtain ⟨M19, aM19, bM19, cM19, eM19, h⟩ := wI_inv h
    refine ew_wI d_XNodes_put_207 aM19 bM19 cM19 eM19 ?_
    refine ew_aload_n 0 d_XNodes_put_208 rfl rfl ?_
    obtain ⟨v20, av20, bv20, h⟩ := gR_inv h
    refine ew_gR 3 5 d_XNodes_put_209 fl_XNodes_31 av20 bv20 ?_
    refine ew_iload d_XNodes_put_212 rfl ?_
    refine ew_iload d_XNodes_put_214 rfl ?_
    refine ew_iconst (1) d_XNodes_put_216 (by decide) ?_
    refine ew_iadd d_XNodes_put_217 ?_
    obtain ⟨M21, aM21, bM21, cM21, eM21, h⟩ := wI_inv h
    refine ew_wI d_XNodes_put_218 aM21 bM21 cM21 eM21 ?_
    refine ew_aload_n 0 d_XNodes_put_219 rfl rfl ?_
    obtain ⟨v22, av22, bv22, h⟩ := gR_inv h
    refine ew_gR 3 4 d_XNodes_put_220 fl_XNodes_24 av22 bv22 ?_
    refine ew_iload d_XNodes_put_223 rfl ?_
    refine ew_iload_n 1 d_XNodes_put_225 rfl rfl ?_
    refine ew_iconst (3) d_XNodes_put_226 (by decide) ?_
    refine ew_icmp_eq 249 d_XNodes_put_227 (by decide) (fun c23 => ?_) (fun c23 => ?_)
    · rw [if_pos c23] at h
      exact ew_pick (L' := [(7, .int v5)]) [6] rfl (E_XNodes_put_249 hn hl h)
    · rw [if_neg c23] at h
      refine ew_iload_n 1 d_XNodes_put_230 rfl rfl ?_
      refine ew_iconst (5) d_XNodes_put_231 (by decide) ?_
      refine ew_icmp_eq 249 d_XNodes_put_232 (by decide) (fun c24 => ?_) (fun c24 => ?_)
      · rw [if_pos c24] at h
        exact ew_pick (L' := [(7, .int v5)]) [6] rfl (E_XNodes_put_249 hn hl h)
      · rw [if_neg c24] at h
        refine ew_iload_n 1 d_XNodes_put_235 rfl rfl ?_
        refine ew_bipush (9) d_XNodes_put_236 (by decide +kernel) ?_
        refine ew_icmp_ne 253 d_XNodes_put_238 (by decide) (fun c25 => ?_) (fun c25 => ?_)
        · rw [if_neg c25] at h
          exact ew_pick (L' := [(7, .int v5)]) [6] rfl (E_XNodes_put_253 hn hl h)
        · rw [if_pos c25] at h
          refine ew_aload_n 0 d_XNodes_put_241 rfl rfl ?_
          refine ew_iload_n 3 d_XNodes_put_242 rfl rfl ?_
          obtain ⟨kM26, h⟩ := kO_inv h
          obtain ⟨v27, M26, hM26, h⟩ := cI_inv h
          refine ew_callV 3 [.int l3] d_XNodes_put_243 cv_XNodes_61 (T_XNodes_isWord hM26) kM26 (Nat.le_trans (Nat.le_of_ble_eq_true rfl) hn) (Nat.le_trans (Nat.le_of_ble_eq_true rfl) hl) (Nat.le_of_ble_eq_true rfl) rfl rfl ?_
          refine ew_if_eq 253 d_XNodes_put_246 (by decide) (fun c28 => ?_) (fun c28 => ?_)
          · rw [if_pos c28] at h
            exact ew_pick (L' := [(7, .int v5)]) [6] rfl (E_XNodes_put_253 hn hl h)
          · rw [if_neg c28] at h
            exact ew_pick (L' := [(7, .int v5)]) [6] rfl (E_XNodes_put_249 hn hl h)
  · rw [if_neg c4] at h
    refine ew_iconst (-1) d_XNodes_put_141 (by decide) ?_
    obtain ⟨hz, hm⟩ := Prod.mk.inj (Option.some.inj h)
    exact ew_ireturn d_XNodes_put_142 rfl hz.symm hm.symm
def F_XNodes_put_114 (n : Nat) (rec56 : Nat → Int32 → Int32 → Int32 → Int32 → Int32 → Int32 → Int32 → PM → qO) (l0 : Nat) (l1 : Int32) (l2 : Int32) (l3 : Int32) (l4 : Int32) (l6 : Int32) (l7 : Int32) (l8 : Int32) (M : PM) : qO :=
  gR 3 M l0 6 (fun v1 =>
  lI M v1 l7 (fun v2 =>
  bI (l8 + (-1 : Int32)) (fun v3 =>
  rec56 l0 l1 l2 l3 l4 l6 v2 v3 M)))
set_option maxHeartbeats 4000000 in
set_option maxRecDepth 100000 in
theorem E_XNodes_put_114 {g : qG} {X : qX} {Z : qZ} (hn : 1 ≤ zn Z) (hl : 21 ≤ zl Z) {n : Nat} {rec56 : Nat → Int32 → Int32 → Int32 → Int32 → Int32 → Int32 → Int32 → PM → qO} (hrec56 : ∀ (l0 : Nat) (l1 : Int32) (l2 : Int32) (l3 : Int32) (l4 : Int32) (l6 : Int32) (l7 : Int32) (l8 : Int32) (M : PM), rec56 l0 l1 l2 l3 l4 l6 l7 l8 M = some (zr Z, zf Z) → EW Y_XNodes_put g X Z 56 [(0, .ref l0), (1, .int l1), (2, .int l2), (3, .int l3), (4, .int l4), (6, .int l6), (7, .int l7), (8, .int l8)] [] M) {l0 : Nat} {l1 : Int32} {l2 : Int32} {l3 : Int32} {l4 : Int32} {l6 : Int32} {l7 : Int32} {l8 : Int32} {M : PM} (h : F_XNodes_put_114 n rec56 l0 l1 l2 l3 l4 l6 l7 l8 M = some (zr Z, zf Z)) : EW Y_XNodes_put g X Z 114 [(0, .ref l0), (1, .int l1), (2, .int l2), (3, .int l3), (4, .int l4), (6, .int l6), (7, .int l7), (8, .int l8)] [] M := by
  unfold F_XNodes_put_114 at h
  refine ew_aload_n 0 d_XNodes_put_114 rfl rfl ?_
  obtain ⟨v1, av1, bv1, h⟩ := gR_inv h
  refine ew_gR 3 6 d_XNodes_put_115 fl_XNodes_28 av1 bv1 ?_
  refine ew_iload d_XNodes_put_118 rfl ?_
  obtain ⟨v2, av2, bv2, cv2, ev2, h⟩ := lI_inv h
  refine ew_lI d_XNodes_put_120 av2 bv2 cv2 ev2 ?_
  refine ew_istore (L' := [(0, .ref l0), (1, .int l1), (2, .int l2), (3, .int l3), (4, .int l4), (6, .int l6), (7, .int v2), (8, .int l8)]) [1, 2, 3, 4, 5, 6, 0, 7] d_XNodes_put_121 (by decide) rfl ?_
  obtain ⟨v3, ev3, h⟩ := bI_inv h
  refine ew_iinc (L' := [(0, .ref l0), (1, .int l1), (2, .int l2), (3, .int l3), (4, .int l4), (6, .int l6), (7, .int v2), (8, .int v3)]) v3 [1, 2, 3, 4, 5, 6, 7, 0] d_XNodes_put_123 rfl (by rw [ev3]; rfl) (by decide) rfl ?_
  refine ew_goto 56 d_XNodes_put_126 (by decide) ?_
  exact hrec56 l0 l1 l2 l3 l4 l6 v2 v3 M h
def F_XNodes_put_56 (n : Nat) : Nat → Nat → Int32 → Int32 → Int32 → Int32 → Int32 → Int32 → Int32 → PM → qO
  | 0, _, _, _, _, _, _, _, _, _ => none
  | f + 1, l0, l1, l2, l3, l4, l6, l7, l8, M =>
    if l8 ≤ (0 : Int32) then
      F_XNodes_put_129 n l0 l1 l2 l3 l4 l6 M
    else
      if l7 < (0 : Int32) then
        F_XNodes_put_129 n l0 l1 l2 l3 l4 l6 M
      else
        gR 3 M l0 0 (fun v3 =>
        lI M v3 l7 (fun v4 =>
        if v4 = l1 then
          gR 3 M l0 1 (fun v6 =>
          lI M v6 l7 (fun v7 =>
          if v7 = l2 then
            gR 3 M l0 2 (fun v9 =>
            lI M v9 l7 (fun v10 =>
            if v10 = l3 then
              gR 3 M l0 3 (fun v12 =>
              lI M v12 l7 (fun v13 =>
              if v13 = l4 then
                some (.inl (some (.int l7)), M)
              else
                F_XNodes_put_114 n (F_XNodes_put_56 n f) l0 l1 l2 l3 l4 l6 l7 l8 M))
            else
              F_XNodes_put_114 n (F_XNodes_put_56 n f) l0 l1 l2 l3 l4 l6 l7 l8 M))
          else
            F_XNodes_put_114 n (F_XNodes_put_56 n f) l0 l1 l2 l3 l4 l6 l7 l8 M))
        else
          F_XNodes_put_114 n (F_XNodes_put_56 n f) l0 l1 l2 l3 l4 l6 l7 l8 M))
set_option maxHeartbeats 4000000 in
set_option maxRecDepth 100000 in
theorem E_XNodes_put_56 {g : qG} {X : qX} {Z : qZ} (hn : 1 ≤ zn Z) (hl : 21 ≤ zl Z) {n : Nat} : ∀ (f : Nat) (l0 : Nat) (l1 : Int32) (l2 : Int32) (l3 : Int32) (l4 : Int32) (l6 : Int32) (l7 : Int32) (l8 : Int32) (M : PM), F_XNodes_put_56 n f l0 l1 l2 l3 l4 l6 l7 l8 M = some (zr Z, zf Z) → EW Y_XNodes_put g X Z 56 [(0, .ref l0), (1, .int l1), (2, .int l2), (3, .int l3), (4, .int l4), (6, .int l6), (7, .int l7), (8, .int l8)] [] M := by
  intro f
  induction f with
  | zero => intro l0 l1 l2 l3 l4 l6 l7 l8 M h; rw [F_XNodes_put_56] at h; cases h
  | succ f ih =>
    intro l0 l1 l2 l3 l4 l6 l7 l8 M h
    rw [F_XNodes_put_56] at h
    refine ew_iload d_XNodes_put_56 rfl ?_
    refine ew_if_le 129 d_XNodes_put_58 (by decide) (fun c1 => ?_) (fun c1 => ?_)
    · rw [if_pos c1] at h
      exact ew_pick (L' := [(0, .ref l0), (1, .int l1), (2, .int l2), (3, .int l3), (4, .int l4), (6, .int l6)]) [0, 1, 2, 3, 4, 5] rfl (E_XNodes_put_129 hn hl h)
    · rw [if_neg c1] at h
      refine ew_iload d_XNodes_put_61 rfl ?_
      refine ew_if_lt 129 d_XNodes_put_63 (by decide) (fun c2 => ?_) (fun c2 => ?_)
      · rw [if_pos c2] at h
        exact ew_pick (L' := [(0, .ref l0), (1, .int l1), (2, .int l2), (3, .int l3), (4, .int l4), (6, .int l6)]) [0, 1, 2, 3, 4, 5] rfl (E_XNodes_put_129 hn hl h)
      · rw [if_neg c2] at h
        refine ew_aload_n 0 d_XNodes_put_66 rfl rfl ?_
        obtain ⟨v3, av3, bv3, h⟩ := gR_inv h
        refine ew_gR 3 0 d_XNodes_put_67 fl_XNodes_9 av3 bv3 ?_
        refine ew_iload d_XNodes_put_70 rfl ?_
        obtain ⟨v4, av4, bv4, cv4, ev4, h⟩ := lI_inv h
        refine ew_lI d_XNodes_put_72 av4 bv4 cv4 ev4 ?_
        refine ew_iload_n 1 d_XNodes_put_73 rfl rfl ?_
        refine ew_icmp_ne 114 d_XNodes_put_74 (by decide) (fun c5 => ?_) (fun c5 => ?_)
        · rw [if_neg c5] at h
          exact E_XNodes_put_114 hn hl ih h
        · rw [if_pos c5] at h
          refine ew_aload_n 0 d_XNodes_put_77 rfl rfl ?_
          obtain ⟨v6, av6, bv6, h⟩ := gR_inv h
          refine ew_gR 3 1 d_XNodes_put_78 fl_XNodes_15 av6 bv6 ?_
          refine ew_iload d_XNodes_put_81 rfl ?_
          obtain ⟨v7, av7, bv7, cv7, ev7, h⟩ := lI_inv h
          refine ew_lI d_XNodes_put_83 av7 bv7 cv7 ev7 ?_
          refine ew_iload_n 2 d_XNodes_put_84 rfl rfl ?_
          refine ew_icmp_ne 114 d_XNodes_put_85 (by decide) (fun c8 => ?_) (fun c8 => ?_)
          · rw [if_neg c8] at h
            exact E_XNodes_put_114 hn hl ih h
          · rw [if_pos c8] at h
            refine ew_aload_n 0 d_XNodes_put_88 rfl rfl ?_
            obtain ⟨v9, av9, bv9, h⟩ := gR_inv h
            refine ew_gR 3 2 d_XNodes_put_89 fl_XNodes_18 av9 bv9 ?_
            refine ew_iload d_XNodes_put_92 rfl ?_
            obtain ⟨v10, av10, bv10, cv10, ev10, h⟩ := lI_inv h
            refine ew_lI d_XNodes_put_94 av10 bv10 cv10 ev10 ?_
            refine ew_iload_n 3 d_XNodes_put_95 rfl rfl ?_
            refine ew_icmp_ne 114 d_XNodes_put_96 (by decide) (fun c11 => ?_) (fun c11 => ?_)
            · rw [if_neg c11] at h
              exact E_XNodes_put_114 hn hl ih h
            · rw [if_pos c11] at h
              refine ew_aload_n 0 d_XNodes_put_99 rfl rfl ?_
              obtain ⟨v12, av12, bv12, h⟩ := gR_inv h
              refine ew_gR 3 3 d_XNodes_put_100 fl_XNodes_21 av12 bv12 ?_
              refine ew_iload d_XNodes_put_103 rfl ?_
              obtain ⟨v13, av13, bv13, cv13, ev13, h⟩ := lI_inv h
              refine ew_lI d_XNodes_put_105 av13 bv13 cv13 ev13 ?_
              refine ew_iload d_XNodes_put_106 rfl ?_
              refine ew_icmp_ne 114 d_XNodes_put_108 (by decide) (fun c14 => ?_) (fun c14 => ?_)
              · rw [if_neg c14] at h
                exact E_XNodes_put_114 hn hl ih h
              · rw [if_pos c14] at h
                refine ew_iload d_XNodes_put_111 rfl ?_
                obtain ⟨hz, hm⟩ := Prod.mk.inj (Option.some.inj h)
                exact ew_ireturn d_XNodes_put_113 rfl hz.symm hm.symm
def F_XNodes_put (n : Nat) (l0 : Nat) (l1 : Int32) (l2 : Int32) (l3 : Int32) (l4 : Int32) (M : PM) : qO :=
  bI ((((((l1 * (31 : Int32)) + l2) * (131 : Int32)) + l3) * (523 : Int32)) + l4) (fun v1 =>
  gR 3 M l0 5 (fun v2 =>
  aL M v2 (fun v3 =>
  bI ((v1 ^^^ ((v1.toUInt32 >>> ((13 : Int32).toUInt32 &&& Int32.toUInt32 31)).toInt32)) &&& (v3 - (1 : Int32))) (fun v4 =>
  gR 3 M l0 5 (fun v5 =>
  lI M v5 v4 (fun v6 =>
  bI (v6 - (1 : Int32)) (fun v7 =>
  gI 3 M l0 7 (fun v8 =>
  F_XNodes_put_56 n n l0 l1 l2 l3 l4 v4 v7 v8 M))))))))
set_option maxHeartbeats 4000000 in
set_option maxRecDepth 100000 in
theorem E_XNodes_put {g : qG} {X : qX} {Z : qZ} (hn : 1 ≤ zn Z) (hl : 21 ≤ zl Z) {n : Nat} {l0 : Nat} {l1 : Int32} {l2 : Int32} {l3 : Int32} {l4 : Int32} {M : PM} (h : F_XNodes_put n l0 l1 l2 l3 l4 M = some (zr Z, zf Z)) : EW Y_XNodes_put g X Z 0 [(0, .ref l0), (1, .int l1), (2, .int l2), (3, .int l3), (4, .int l4)] [] M := by
  unfold F_XNodes_put at h
  refine ew_iload_n 1 d_XNodes_put_0 rfl rfl ?_
  refine ew_bipush (31) d_XNodes_put_1 (by decide +kernel) ?_
  refine ew_imul d_XNodes_put_3 ?_
  refine ew_iload_n 2 d_XNodes_put_4 rfl rfl ?_
  refine ew_iadd d_XNodes_put_5 ?_
  refine ew_sipush (131) d_XNodes_put_6 (by decide +kernel) ?_
  refine ew_imul d_XNodes_put_9 ?_
  refine ew_iload_n 3 d_XNodes_put_10 rfl rfl ?_
  refine ew_iadd d_XNodes_put_11 ?_
  refine ew_sipush (523) d_XNodes_put_12 (by decide +kernel) ?_
  refine ew_imul d_XNodes_put_15 ?_
  refine ew_iload d_XNodes_put_16 rfl ?_
  refine ew_iadd d_XNodes_put_18 ?_
  obtain ⟨v1, ev1, h⟩ := bI_inv h
  refine ew_topI ev1 ?_
  refine ew_istore (L' := [(0, .ref l0), (1, .int l1), (2, .int l2), (3, .int l3), (4, .int l4), (5, .int v1)]) [1, 2, 3, 4, 5, 0] d_XNodes_put_19 (by decide) rfl ?_
  refine ew_iload d_XNodes_put_21 rfl ?_
  refine ew_iload d_XNodes_put_23 rfl ?_
  refine ew_bipush (13) d_XNodes_put_25 (by decide +kernel) ?_
  refine ew_iushr d_XNodes_put_27 ?_
  refine ew_ixor d_XNodes_put_28 ?_
  refine ew_aload_n 0 d_XNodes_put_29 rfl rfl ?_
  obtain ⟨v2, av2, bv2, h⟩ := gR_inv h
  refine ew_gR 3 5 d_XNodes_put_30 fl_XNodes_31 av2 bv2 ?_
  obtain ⟨v3, av3, ev3, h⟩ := aL_inv h
  refine ew_aL d_XNodes_put_33 av3 ev3 ?_
  refine ew_iconst (1) d_XNodes_put_34 (by decide) ?_
  refine ew_isub d_XNodes_put_35 ?_
  refine ew_iand d_XNodes_put_36 ?_
  obtain ⟨v4, ev4, h⟩ := bI_inv h
  refine ew_topI ev4 ?_
  refine ew_istore (L' := [(0, .ref l0), (1, .int l1), (2, .int l2), (3, .int l3), (4, .int l4), (5, .int v1), (6, .int v4)]) [1, 2, 3, 4, 5, 6, 0] d_XNodes_put_37 (by decide) rfl ?_
  refine ew_aload_n 0 d_XNodes_put_39 rfl rfl ?_
  obtain ⟨v5, av5, bv5, h⟩ := gR_inv h
  refine ew_gR 3 5 d_XNodes_put_40 fl_XNodes_31 av5 bv5 ?_
  refine ew_iload d_XNodes_put_43 rfl ?_
  obtain ⟨v6, av6, bv6, cv6, ev6, h⟩ := lI_inv h
  refine ew_lI d_XNodes_put_45 av6 bv6 cv6 ev6 ?_
  refine ew_iconst (1) d_XNodes_put_46 (by decide) ?_
  refine ew_isub d_XNodes_put_47 ?_
  obtain ⟨v7, ev7, h⟩ := bI_inv h
  refine ew_topI ev7 ?_
  refine ew_istore (L' := [(0, .ref l0), (1, .int l1), (2, .int l2), (3, .int l3), (4, .int l4), (5, .int v1), (6, .int v4), (7, .int v7)]) [1, 2, 3, 4, 5, 6, 7, 0] d_XNodes_put_48 (by decide) rfl ?_
  refine ew_aload_n 0 d_XNodes_put_50 rfl rfl ?_
  obtain ⟨v8, av8, bv8, h⟩ := gI_inv h
  refine ew_gI 3 7 d_XNodes_put_51 fl_XNodes_40 av8 bv8 ?_
  refine ew_istore (L' := [(0, .ref l0), (1, .int l1), (2, .int l2), (3, .int l3), (4, .int l4), (5, .int v1), (6, .int v4), (7, .int v7), (8, .int v8)]) [1, 2, 3, 4, 5, 6, 7, 8, 0] d_XNodes_put_54 (by decide) rfl ?_
  exact ew_pick (L' := [(0, .ref l0), (1, .int l1), (2, .int l2), (3, .int l3), (4, .int l4), (6, .int v4), (7, .int v7), (8, .int v8)]) [0, 1, 2, 3, 4, 6, 7, 8] rfl (E_XNodes_put_56 hn hl n l0 l1 l2 l3 l4 v4 v7 v8 M h)
theorem T_XNodes_put {n : Nat} {l0 : Nat} {l1 : Int32} {l2 : Int32} {l3 : Int32} {l4 : Int32} {M Mf : PM} {res : qRs} (h : F_XNodes_put n l0 l1 l2 l3 l4 M = some (res, Mf)) : CT Y_XNodes_put 1 21 [.ref l0, .int l1, .int l2, .int l3, .int l4] M res Mf :=
  CT_of (by decide) (Nat.le_of_ble_eq_true rfl) (qHd_ne (by decide)) (fun g X ad0 => E_XNodes_put (g := g) (X := X) (Z := (ad0, M, res, Mf, 1, 21)) (Nat.le_refl _) (Nat.le_refl _) h)
theorem d_XNodes_reset_0 : decode Y_XNodes_reset.2.1 0 = .ok (.aload_n 0, 1) := by decide +kernel
theorem d_XNodes_reset_1 : decode Y_XNodes_reset.2.1 1 = .ok (.getfield 31, 3) := by decide +kernel
theorem d_XNodes_reset_4 : decode Y_XNodes_reset.2.1 4 = .ok (.iconst 0, 1) := by decide +kernel
theorem d_XNodes_reset_5 : decode Y_XNodes_reset.2.1 5 = .ok (.invokestatic 34, 3) := by decide +kernel
theorem d_XNodes_reset_8 : decode Y_XNodes_reset.2.1 8 = .ok (.aload_n 0, 1) := by decide +kernel
theorem d_XNodes_reset_9 : decode Y_XNodes_reset.2.1 9 = .ok (.iconst 0, 1) := by decide +kernel
theorem d_XNodes_reset_10 : decode Y_XNodes_reset.2.1 10 = .ok (.putfield 40, 3) := by decide +kernel
theorem d_XNodes_reset_13 : decode Y_XNodes_reset.2.1 13 = .ok (.aload_n 0, 1) := by decide +kernel
theorem d_XNodes_reset_14 : decode Y_XNodes_reset.2.1 14 = .ok (.iconst 0, 1) := by decide +kernel
theorem d_XNodes_reset_15 : decode Y_XNodes_reset.2.1 15 = .ok (.iconst (-1), 1) := by decide +kernel
theorem d_XNodes_reset_16 : decode Y_XNodes_reset.2.1 16 = .ok (.iconst (-1), 1) := by decide +kernel
theorem d_XNodes_reset_17 : decode Y_XNodes_reset.2.1 17 = .ok (.iconst (-1), 1) := by decide +kernel
theorem d_XNodes_reset_18 : decode Y_XNodes_reset.2.1 18 = .ok (.invokevirtual 44, 3) := by decide +kernel
theorem d_XNodes_reset_21 : decode Y_XNodes_reset.2.1 21 = .ok (.pop, 1) := by decide +kernel
theorem d_XNodes_reset_22 : decode Y_XNodes_reset.2.1 22 = .ok (.aload_n 0, 1) := by decide +kernel
theorem d_XNodes_reset_23 : decode Y_XNodes_reset.2.1 23 = .ok (.iconst 1, 1) := by decide +kernel
theorem d_XNodes_reset_24 : decode Y_XNodes_reset.2.1 24 = .ok (.iconst (-1), 1) := by decide +kernel
theorem d_XNodes_reset_25 : decode Y_XNodes_reset.2.1 25 = .ok (.iconst (-1), 1) := by decide +kernel
theorem d_XNodes_reset_26 : decode Y_XNodes_reset.2.1 26 = .ok (.iconst (-1), 1) := by decide +kernel
theorem d_XNodes_reset_27 : decode Y_XNodes_reset.2.1 27 = .ok (.invokevirtual 44, 3) := by decide +kernel
theorem d_XNodes_reset_30 : decode Y_XNodes_reset.2.1 30 = .ok (.pop, 1) := by decide +kernel
theorem d_XNodes_reset_31 : decode Y_XNodes_reset.2.1 31 = .ok (.aload_n 0, 1) := by decide +kernel
theorem d_XNodes_reset_32 : decode Y_XNodes_reset.2.1 32 = .ok (.iconst 2, 1) := by decide +kernel
theorem d_XNodes_reset_33 : decode Y_XNodes_reset.2.1 33 = .ok (.iconst (-1), 1) := by decide +kernel
theorem d_XNodes_reset_34 : decode Y_XNodes_reset.2.1 34 = .ok (.iconst (-1), 1) := by decide +kernel
theorem d_XNodes_reset_35 : decode Y_XNodes_reset.2.1 35 = .ok (.iconst (-1), 1) := by decide +kernel
theorem d_XNodes_reset_36 : decode Y_XNodes_reset.2.1 36 = .ok (.invokevirtual 44, 3) := by decide +kernel
theorem d_XNodes_reset_39 : decode Y_XNodes_reset.2.1 39 = .ok (.pop, 1) := by decide +kernel
theorem d_XNodes_reset_40 : decode Y_XNodes_reset.2.1 40 = .ok (.return_, 1) := by decide +kernel
def F_XNodes_reset (n : Nat) (l0 : Nat) (M : PM) : qO :=
  gR 3 M l0 5 (fun v1 =>
  cV (F_JArrays_fill n v1 (0 : Int32) M) (fun M2 =>
  pF 3 M2 l0 7 (.int (0 : Int32)) (fun M3 =>
  kO 3 M3 l0 (
  cI (F_XNodes_put n l0 (0 : Int32) (-1 : Int32) (-1 : Int32) (-1 : Int32) M3) (fun v5 M4 =>
  kO 3 M4 l0 (
  cI (F_XNodes_put n l0 (1 : Int32) (-1 : Int32) (-1 : Int32) (-1 : Int32) M4) (fun v7 M6 =>
  kO 3 M6 l0 (
  cI (F_XNodes_put n l0 (2 : Int32) (-1 : Int32) (-1 : Int32) (-1 : Int32) M6) (fun v9 M8 =>
  some (.inl none, M8))))))))))
set_option maxHeartbeats 4000000 in
set_option maxRecDepth 100000 in
theorem E_XNodes_reset {g : qG} {X : qX} {Z : qZ} (hn : 2 ≤ zn Z) (hl : 49 ≤ zl Z) {n : Nat} {l0 : Nat} {M : PM} (h : F_XNodes_reset n l0 M = some (zr Z, zf Z)) : EW Y_XNodes_reset g X Z 0 [(0, .ref l0)] [] M := by
  unfold F_XNodes_reset at h
  refine ew_aload_n 0 d_XNodes_reset_0 rfl rfl ?_
  obtain ⟨v1, av1, bv1, h⟩ := gR_inv h
  refine ew_gR 3 5 d_XNodes_reset_1 fl_XNodes_31 av1 bv1 ?_
  refine ew_iconst (0) d_XNodes_reset_4 (by decide) ?_
  obtain ⟨M2, hM2, h⟩ := cV_inv h
  refine ew_callS [.ref v1, .int (0 : Int32)] d_XNodes_reset_5 cs_XNodes_34 (T_JArrays_fill hM2) (Nat.le_trans (Nat.le_of_ble_eq_true rfl) hn) (Nat.le_trans (Nat.le_of_ble_eq_true rfl) hl) (Nat.le_of_ble_eq_true rfl) rfl rfl ?_
  refine ew_aload_n 0 d_XNodes_reset_8 rfl rfl ?_
  refine ew_iconst (0) d_XNodes_reset_9 (by decide) ?_
  obtain ⟨M3, aM3, eM3, h⟩ := pF_inv h
  refine ew_pF 3 7 d_XNodes_reset_10 fl_XNodes_40 aM3 eM3 (fun ad => ⟨rfl, rfl⟩) ?_
  refine ew_aload_n 0 d_XNodes_reset_13 rfl rfl ?_
  refine ew_iconst (0) d_XNodes_reset_14 (by decide) ?_
  refine ew_iconst (-1) d_XNodes_reset_15 (by decide) ?_
  refine ew_iconst (-1) d_XNodes_reset_16 (by decide) ?_
  refine ew_iconst (-1) d_XNodes_reset_17 (by decide) ?_
  obtain ⟨kM4, h⟩ := kO_inv h
  obtain ⟨v5, M4, hM4, h⟩ := cI_inv h
  refine ew_callV 3 [.int (0 : Int32), .int (-1 : Int32), .int (-1 : Int32), .int (-1 : Int32)] d_XNodes_reset_18 cv_XNodes_44 (T_XNodes_put hM4) kM4 (Nat.le_trans (Nat.le_of_ble_eq_true rfl) hn) (Nat.le_trans (Nat.le_of_ble_eq_true rfl) hl) (Nat.le_of_ble_eq_true rfl) rfl rfl ?_
  refine ew_pop d_XNodes_reset_21 rfl ?_
  refine ew_aload_n 0 d_XNodes_reset_22 rfl rfl ?_
  refine ew_iconst (1) d_XNodes_reset_23 (by decide) ?_
  refine ew_iconst (-1) d_XNodes_reset_24 (by decide) ?_
  refine ew_iconst (-1) d_XNodes_reset_25 (by decide) ?_
  refine ew_iconst (-1) d_XNodes_reset_26 (by decide) ?_
  obtain ⟨kM6, h⟩ := kO_inv h
  obtain ⟨v7, M6, hM6, h⟩ := cI_inv h
  refine ew_callV 3 [.int (1 : Int32), .int (-1 : Int32), .int (-1 : Int32), .int (-1 : Int32)] d_XNodes_reset_27 cv_XNodes_44 (T_XNodes_put hM6) kM6 (Nat.le_trans (Nat.le_of_ble_eq_true rfl) hn) (Nat.le_trans (Nat.le_of_ble_eq_true rfl) hl) (Nat.le_of_ble_eq_true rfl) rfl rfl ?_
  refine ew_pop d_XNodes_reset_30 rfl ?_
  refine ew_aload_n 0 d_XNodes_reset_31 rfl rfl ?_
  refine ew_iconst (2) d_XNodes_reset_32 (by decide) ?_
  refine ew_iconst (-1) d_XNodes_reset_33 (by decide) ?_
  refine ew_iconst (-1) d_XNodes_reset_34 (by decide) ?_
  refine ew_iconst (-1) d_XNodes_reset_35 (by decide) ?_
  obtain ⟨kM8, h⟩ := kO_inv h
  obtain ⟨v9, M8, hM8, h⟩ := cI_inv h
  refine ew_callV 3 [.int (2 : Int32), .int (-1 : Int32), .int (-1 : Int32), .int (-1 : Int32)] d_XNodes_reset_36 cv_XNodes_44 (T_XNodes_put hM8) kM8 (Nat.le_trans (Nat.le_of_ble_eq_true rfl) hn) (Nat.le_trans (Nat.le_of_ble_eq_true rfl) hl) (Nat.le_of_ble_eq_true rfl) rfl rfl ?_
  refine ew_pop d_XNodes_reset_39 rfl ?_
  obtain ⟨hz, hm⟩ := Prod.mk.inj (Option.some.inj h)
  exact ew_return d_XNodes_reset_40 rfl hz.symm hm.symm
theorem T_XNodes_reset {n : Nat} {l0 : Nat} {M Mf : PM} {res : qRs} (h : F_XNodes_reset n l0 M = some (res, Mf)) : CT Y_XNodes_reset 2 49 [.ref l0] M res Mf :=
  CT_of (by decide) (Nat.le_of_ble_eq_true rfl) (qHd_ne (by decide)) (fun g X ad0 => E_XNodes_reset (g := g) (X := X) (Z := (ad0, M, res, Mf, 2, 49)) (Nat.le_refl _) (Nat.le_refl _) h)
theorem d_XCore_init_0 : decode Y_XCore_init.2.1 0 = .ok (.aload_n 0, 1) := by decide +kernel
theorem d_XCore_init_1 : decode Y_XCore_init.2.1 1 = .ok (.invokespecial 3, 3) := by decide +kernel
theorem d_XCore_init_4 : decode Y_XCore_init.2.1 4 = .ok (.aload_n 0, 1) := by decide +kernel
theorem d_XCore_init_5 : decode Y_XCore_init.2.1 5 = .ok (.new 9, 3) := by decide +kernel
theorem d_XCore_init_8 : decode Y_XCore_init.2.1 8 = .ok (.dup, 1) := by decide +kernel
theorem d_XCore_init_9 : decode Y_XCore_init.2.1 9 = .ok (.sipush (300), 3) := by decide +kernel
theorem d_XCore_init_12 : decode Y_XCore_init.2.1 12 = .ok (.sipush (256), 3) := by decide +kernel
theorem d_XCore_init_15 : decode Y_XCore_init.2.1 15 = .ok (.invokespecial 11, 3) := by decide +kernel
theorem d_XCore_init_18 : decode Y_XCore_init.2.1 18 = .ok (.putfield 14, 3) := by decide +kernel
theorem d_XCore_init_21 : decode Y_XCore_init.2.1 21 = .ok (.aload_n 0, 1) := by decide +kernel
theorem d_XCore_init_22 : decode Y_XCore_init.2.1 22 = .ok (.getfield 14, 3) := by decide +kernel
theorem d_XCore_init_25 : decode Y_XCore_init.2.1 25 = .ok (.invokevirtual 20, 3) := by decide +kernel
theorem d_XCore_init_28 : decode Y_XCore_init.2.1 28 = .ok (.aload_n 0, 1) := by decide +kernel
theorem d_XCore_init_29 : decode Y_XCore_init.2.1 29 = .ok (.bipush (16), 2) := by decide +kernel
theorem d_XCore_init_31 : decode Y_XCore_init.2.1 31 = .ok (.newarray .int, 2) := by decide +kernel
theorem d_XCore_init_33 : decode Y_XCore_init.2.1 33 = .ok (.putfield 23, 3) := by decide +kernel
theorem d_XCore_init_36 : decode Y_XCore_init.2.1 36 = .ok (.aload_n 0, 1) := by decide +kernel
theorem d_XCore_init_37 : decode Y_XCore_init.2.1 37 = .ok (.bipush (16), 2) := by decide +kernel
theorem d_XCore_init_39 : decode Y_XCore_init.2.1 39 = .ok (.newarray .int, 2) := by decide +kernel
theorem d_XCore_init_41 : decode Y_XCore_init.2.1 41 = .ok (.putfield 27, 3) := by decide +kernel
theorem d_XCore_init_44 : decode Y_XCore_init.2.1 44 = .ok (.aload_n 0, 1) := by decide +kernel
theorem d_XCore_init_45 : decode Y_XCore_init.2.1 45 = .ok (.bipush (16), 2) := by decide +kernel
theorem d_XCore_init_47 : decode Y_XCore_init.2.1 47 = .ok (.newarray .int, 2) := by decide +kernel
theorem d_XCore_init_49 : decode Y_XCore_init.2.1 49 = .ok (.putfield 30, 3) := by decide +kernel
theorem d_XCore_init_52 : decode Y_XCore_init.2.1 52 = .ok (.aload_n 0, 1) := by decide +kernel
theorem d_XCore_init_53 : decode Y_XCore_init.2.1 53 = .ok (.bipush (8), 2) := by decide +kernel
theorem d_XCore_init_55 : decode Y_XCore_init.2.1 55 = .ok (.newarray .int, 2) := by decide +kernel
theorem d_XCore_init_57 : decode Y_XCore_init.2.1 57 = .ok (.putfield 33, 3) := by decide +kernel
theorem d_XCore_init_60 : decode Y_XCore_init.2.1 60 = .ok (.aload_n 0, 1) := by decide +kernel
theorem d_XCore_init_61 : decode Y_XCore_init.2.1 61 = .ok (.sipush (300), 3) := by decide +kernel
theorem d_XCore_init_64 : decode Y_XCore_init.2.1 64 = .ok (.newarray .boolean, 2) := by decide +kernel
theorem d_XCore_init_66 : decode Y_XCore_init.2.1 66 = .ok (.putfield 36, 3) := by decide +kernel
theorem d_XCore_init_69 : decode Y_XCore_init.2.1 69 = .ok (.return_, 1) := by decide +kernel
def F_XCore_init (n : Nat) (l0 : Nat) (M : PM) : qO :=
  mO 3 M (fun q1 M2 =>
  cV (F_XNodes_init n q1 (300 : Int32) (256 : Int32) M2) (fun M3 =>
  pF 2 M3 l0 0 (.ref q1) (fun M4 =>
  gR 2 M4 l0 0 (fun v5 =>
  kO 3 M4 v5 (
  cV (F_XNodes_reset n v5 M4) (fun M6 =>
  mA 0 M6 (16 : Int32) (fun q7 M8 =>
  pF 2 M8 l0 1 (.ref q7) (fun M9 =>
  mA 0 M9 (16 : Int32) (fun q10 M11 =>
  pF 2 M11 l0 2 (.ref q10) (fun M12 =>
  mA 0 M12 (16 : Int32) (fun q13 M14 =>
  pF 2 M14 l0 3 (.ref q13) (fun M15 =>
  mA 0 M15 (8 : Int32) (fun q16 M17 =>
  pF 2 M17 l0 4 (.ref q16) (fun M18 =>
  mA 1 M18 (300 : Int32) (fun q19 M20 =>
  pF 2 M20 l0 5 (.ref q19) (fun M21 =>
  some (.inl none, M21)))))))))))))))))
set_option maxHeartbeats 4000000 in
set_option maxRecDepth 100000 in
theorem E_XCore_init {g : qG} {X : qX} {Z : qZ} (hn : 3 ≤ zn Z) (hl : 69 ≤ zl Z) {n : Nat} {l0 : Nat} {M : PM} (h : F_XCore_init n l0 M = some (zr Z, zf Z)) : EW Y_XCore_init g X Z 0 [(0, .ref l0)] [] M := by
  unfold F_XCore_init at h
  refine ew_aload_n 0 d_XCore_init_0 rfl rfl ?_
  refine ew_objInit d_XCore_init_1 ob_XCore_3 (Nat.le_trans (Nat.le_of_ble_eq_true rfl) hn) (Nat.le_trans (Nat.le_of_ble_eq_true rfl) hl) ?_
  refine ew_aload_n 0 d_XCore_init_4 rfl rfl ?_
  obtain ⟨q1, M2, eq1, fq1, h⟩ := mO_inv h
  refine ew_mO 3 d_XCore_init_5 nw_XCore_9 eq1 fq1 ?_
  refine ew_dup d_XCore_init_8 rfl ?_
  refine ew_sipush (300) d_XCore_init_9 (by decide +kernel) ?_
  refine ew_sipush (256) d_XCore_init_12 (by decide +kernel) ?_
  obtain ⟨M3, hM3, h⟩ := cV_inv h
  refine ew_callI [.int (300 : Int32), .int (256 : Int32)] d_XCore_init_15 ci_XCore_11 (T_XNodes_init hM3) (Nat.le_trans (Nat.le_of_ble_eq_true rfl) hn) (Nat.le_trans (Nat.le_of_ble_eq_true rfl) hl) (Nat.le_of_ble_eq_true rfl) rfl ?_
  obtain ⟨M4, aM4, eM4, h⟩ := pF_inv h
  refine ew_pFF 2 0 d_XCore_init_18 fl_XCore_14 rfl rfl aM4 eM4 (fun ad => ⟨rfl, rfl⟩) ?_
  refine ew_aload_n 0 d_XCore_init_21 rfl rfl ?_
  obtain ⟨v5, av5, bv5, h⟩ := gR_inv h
  refine ew_gR 2 0 d_XCore_init_22 fl_XCore_14 av5 bv5 ?_
  obtain ⟨kM6, h⟩ := kO_inv h
  obtain ⟨M6, hM6, h⟩ := cV_inv h
  refine ew_callV 3 [] d_XCore_init_25 cv_XCore_20 (T_XNodes_reset hM6) kM6 (Nat.le_trans (Nat.le_of_ble_eq_true rfl) hn) (Nat.le_trans (Nat.le_of_ble_eq_true rfl) hl) (Nat.le_of_ble_eq_true rfl) rfl rfl ?_
  refine ew_aload_n 0 d_XCore_init_28 rfl rfl ?_
  refine ew_bipush (16) d_XCore_init_29 (by decide +kernel) ?_
  obtain ⟨q7, M8, aq7, bq7, eq7, fq7, h⟩ := mA_inv h
  refine ew_mA0 d_XCore_init_31 aq7 bq7 eq7 fq7 ?_
  obtain ⟨M9, aM9, eM9, h⟩ := pF_inv h
  refine ew_pFF 2 1 d_XCore_init_33 fl_XCore_23 rfl rfl aM9 eM9 (fun ad => ⟨rfl, rfl⟩) ?_
  refine ew_aload_n 0 d_XCore_init_36 rfl rfl ?_
  refine ew_bipush (16) d_XCore_init_37 (by decide +kernel) ?_
  obtain ⟨q10, M11, aq10, bq10, eq10, fq10, h⟩ := mA_inv h
  refine ew_mA0 d_XCore_init_39 aq10 bq10 eq10 fq10 ?_
  obtain ⟨M12, aM12, eM12, h⟩ := pF_inv h
  refine ew_pFF 2 2 d_XCore_init_41 fl_XCore_27 rfl rfl aM12 eM12 (fun ad => ⟨rfl, rfl⟩) ?_
  refine ew_aload_n 0 d_XCore_init_44 rfl rfl ?_
  refine ew_bipush (16) d_XCore_init_45 (by decide +kernel) ?_
  obtain ⟨q13, M14, aq13, bq13, eq13, fq13, h⟩ := mA_inv h
  refine ew_mA0 d_XCore_init_47 aq13 bq13 eq13 fq13 ?_
  obtain ⟨M15, aM15, eM15, h⟩ := pF_inv h
  refine ew_pFF 2 3 d_XCore_init_49 fl_XCore_30 rfl rfl aM15 eM15 (fun ad => ⟨rfl, rfl⟩) ?_
  refine ew_aload_n 0 d_XCore_init_52 rfl rfl ?_
  refine ew_bipush (8) d_XCore_init_53 (by decide +kernel) ?_
  obtain ⟨q16, M17, aq16, bq16, eq16, fq16, h⟩ := mA_inv h
  refine ew_mA0 d_XCore_init_55 aq16 bq16 eq16 fq16 ?_
  obtain ⟨M18, aM18, eM18, h⟩ := pF_inv h
  refine ew_pFF 2 4 d_XCore_init_57 fl_XCore_33 rfl rfl aM18 eM18 (fun ad => ⟨rfl, rfl⟩) ?_
  refine ew_aload_n 0 d_XCore_init_60 rfl rfl ?_
  refine ew_sipush (300) d_XCore_init_61 (by decide +kernel) ?_
  obtain ⟨q19, M20, aq19, bq19, eq19, fq19, h⟩ := mA_inv h
  refine ew_mA1 d_XCore_init_64 aq19 bq19 eq19 fq19 ?_
  obtain ⟨M21, aM21, eM21, h⟩ := pF_inv h
  refine ew_pFF 2 5 d_XCore_init_66 fl_XCore_36 rfl rfl aM21 eM21 (fun ad => ⟨rfl, rfl⟩) ?_
  obtain ⟨hz, hm⟩ := Prod.mk.inj (Option.some.inj h)
  exact ew_return d_XCore_init_69 rfl hz.symm hm.symm
theorem T_XCore_init {n : Nat} {l0 : Nat} {M Mf : PM} {res : qRs} (h : F_XCore_init n l0 M = some (res, Mf)) : CT Y_XCore_init 3 69 [.ref l0] M res Mf :=
  CT_of (by decide) (Nat.le_of_ble_eq_true rfl) (qHd_ne (by decide)) (fun g X ad0 => E_XCore_init (g := g) (X := X) (Z := (ad0, M, res, Mf, 3, 69)) (Nat.le_refl _) (Nat.le_refl _) h)
theorem d_XNodes_unmark_0 : decode Y_XNodes_unmark.2.1 0 = .ok (.iconst 0, 1) := by decide +kernel
theorem d_XNodes_unmark_1 : decode Y_XNodes_unmark.2.1 1 = .ok (.istore_n 2, 1) := by decide +kernel
theorem d_XNodes_unmark_2 : decode Y_XNodes_unmark.2.1 2 = .ok (.iload_n 2, 1) := by decide +kernel
theorem d_XNodes_unmark_3 : decode Y_XNodes_unmark.2.1 3 = .ok (.aload_n 0, 1) := by decide +kernel
theorem d_XNodes_unmark_4 : decode Y_XNodes_unmark.2.1 4 = .ok (.getfield 40, 3) := by decide +kernel
theorem d_XNodes_unmark_7 : decode Y_XNodes_unmark.2.1 7 = .ok (.if_icmp .ge (19), 3) := by decide +kernel
theorem d_XNodes_unmark_10 : decode Y_XNodes_unmark.2.1 10 = .ok (.iload_n 2, 1) := by decide +kernel
theorem d_XNodes_unmark_11 : decode Y_XNodes_unmark.2.1 11 = .ok (.aload_n 1, 1) := by decide +kernel
theorem d_XNodes_unmark_12 : decode Y_XNodes_unmark.2.1 12 = .ok (.arraylength, 1) := by decide +kernel
theorem d_XNodes_unmark_13 : decode Y_XNodes_unmark.2.1 13 = .ok (.if_icmp .ge (13), 3) := by decide +kernel
theorem d_XNodes_unmark_16 : decode Y_XNodes_unmark.2.1 16 = .ok (.aload_n 1, 1) := by decide +kernel
theorem d_XNodes_unmark_17 : decode Y_XNodes_unmark.2.1 17 = .ok (.iload_n 2, 1) := by decide +kernel
theorem d_XNodes_unmark_18 : decode Y_XNodes_unmark.2.1 18 = .ok (.iconst 0, 1) := by decide +kernel
theorem d_XNodes_unmark_19 : decode Y_XNodes_unmark.2.1 19 = .ok (.bastore, 1) := by decide +kernel
theorem d_XNodes_unmark_20 : decode Y_XNodes_unmark.2.1 20 = .ok (.iinc 2 (1), 3) := by decide +kernel
theorem d_XNodes_unmark_23 : decode Y_XNodes_unmark.2.1 23 = .ok (.goto (-21), 3) := by decide +kernel
theorem d_XNodes_unmark_26 : decode Y_XNodes_unmark.2.1 26 = .ok (.return_, 1) := by decide +kernel
def F_XNodes_unmark_26 (n : Nat) (M : PM) : qO :=
  some (.inl none, M)
set_option maxHeartbeats 4000000 in
set_option maxRecDepth 100000 in
theorem E_XNodes_unmark_26 {g : qG} {X : qX} {Z : qZ} (hn : 0 ≤ zn Z) (hl : 0 ≤ zl Z) {n : Nat} {M : PM} (h : F_XNodes_unmark_26 n M = some (zr Z, zf Z)) : EW Y_XNodes_unmark g X Z 26 [] [] M := by
  unfold F_XNodes_unmark_26 at h
  obtain ⟨hz, hm⟩ := Prod.mk.inj (Option.some.inj h)
  exact ew_return d_XNodes_unmark_26 rfl hz.symm hm.symm
def F_XNodes_unmark_2 (n : Nat) : Nat → Nat → Nat → Int32 → PM → qO
  | 0, _, _, _, _ => none
  | f + 1, l0, l1, l2, M =>
    gI 3 M l0 7 (fun v1 =>
    if v1 ≤ l2 then
      F_XNodes_unmark_26 n M
    else
      aL M l1 (fun v3 =>
      if v3 ≤ l2 then
        F_XNodes_unmark_26 n M
      else
        wZ M l1 l2 (0 : Int32) (fun M5 =>
        bI (l2 + (1 : Int32)) (fun v6 =>
        (F_XNodes_unmark_2 n f) l0 l1 v6 M5))))
set_option maxHeartbeats 4000000 in
set_option maxRecDepth 100000 in
theorem E_XNodes_unmark_2 {g : qG} {X : qX} {Z : qZ} (hn : 0 ≤ zn Z) (hl : 0 ≤ zl Z) {n : Nat} : ∀ (f : Nat) (l0 : Nat) (l1 : Nat) (l2 : Int32) (M : PM), F_XNodes_unmark_2 n f l0 l1 l2 M = some (zr Z, zf Z) → EW Y_XNodes_unmark g X Z 2 [(0, .ref l0), (1, .ref l1), (2, .int l2)] [] M := by
  intro f
  induction f with
  | zero => intro l0 l1 l2 M h; rw [F_XNodes_unmark_2] at h; cases h
  | succ f ih =>
    intro l0 l1 l2 M h
    rw [F_XNodes_unmark_2] at h
    refine ew_iload_n 2 d_XNodes_unmark_2 rfl rfl ?_
    refine ew_aload_n 0 d_XNodes_unmark_3 rfl rfl ?_
    obtain ⟨v1, av1, bv1, h⟩ := gI_inv h
    refine ew_gI 3 7 d_XNodes_unmark_4 fl_XNodes_40 av1 bv1 ?_
    refine ew_icmp_ge 26 d_XNodes_unmark_7 (by decide) (fun c2 => ?_) (fun c2 => ?_)
    · rw [if_pos c2] at h
      exact ew_pick (L' := []) [] rfl (E_XNodes_unmark_26 hn hl h)
    · rw [if_neg c2] at h
      refine ew_iload_n 2 d_XNodes_unmark_10 rfl rfl ?_
      refine ew_aload_n 1 d_XNodes_unmark_11 rfl rfl ?_
      obtain ⟨v3, av3, ev3, h⟩ := aL_inv h
      refine ew_aL d_XNodes_unmark_12 av3 ev3 ?_
      refine ew_icmp_ge 26 d_XNodes_unmark_13 (by decide) (fun c4 => ?_) (fun c4 => ?_)
      · rw [if_pos c4] at h
        exact ew_pick (L' := []) [] rfl (E_XNodes_unmark_26 hn hl h)
      · rw [if_neg c4] at h
        refine ew_aload_n 1 d_XNodes_unmark_16 rfl rfl ?_
        refine ew_iload_n 2 d_XNodes_unmark_17 rfl rfl ?_
        refine ew_iconst (0) d_XNodes_unmark_18 (by decide) ?_
        obtain ⟨M5, aM5, bM5, cM5, eM5, h⟩ := wZ_inv h
        refine ew_wZ d_XNodes_unmark_19 aM5 bM5 cM5 eM5 ?_
        obtain ⟨v6, ev6, h⟩ := bI_inv h
        refine ew_iinc (L' := [(0, .ref l0), (1, .ref l1), (2, .int v6)]) v6 [1, 2, 0] d_XNodes_unmark_20 rfl (by rw [ev6]; rfl) (by decide) rfl ?_
        refine ew_goto 2 d_XNodes_unmark_23 (by decide) ?_
        exact ih l0 l1 v6 M5 h
def F_XNodes_unmark (n : Nat) (l0 : Nat) (l1 : Nat) (M : PM) : qO :=
  F_XNodes_unmark_2 n n l0 l1 (0 : Int32) M
set_option maxHeartbeats 4000000 in
set_option maxRecDepth 100000 in
theorem E_XNodes_unmark {g : qG} {X : qX} {Z : qZ} (hn : 0 ≤ zn Z) (hl : 0 ≤ zl Z) {n : Nat} {l0 : Nat} {l1 : Nat} {M : PM} (h : F_XNodes_unmark n l0 l1 M = some (zr Z, zf Z)) : EW Y_XNodes_unmark g X Z 0 [(0, .ref l0), (1, .ref l1)] [] M := by
  unfold F_XNodes_unmark at h
  refine ew_iconst (0) d_XNodes_unmark_0 (by decide) ?_
  refine ew_istore_n (L' := [(0, .ref l0), (1, .ref l1), (2, .int (0 : Int32))]) 2 [1, 2, 0] d_XNodes_unmark_1 rfl (by decide) rfl ?_
  exact E_XNodes_unmark_2 hn hl n l0 l1 (0 : Int32) M h
theorem T_XNodes_unmark {n : Nat} {l0 : Nat} {l1 : Nat} {M Mf : PM} {res : qRs} (h : F_XNodes_unmark n l0 l1 M = some (res, Mf)) : CT Y_XNodes_unmark 0 0 [.ref l0, .ref l1] M res Mf :=
  CT_of (by decide) (Nat.le_of_ble_eq_true rfl) (qHd_ne (by decide)) (fun g X ad0 => E_XNodes_unmark (g := g) (X := X) (Z := (ad0, M, res, Mf, 0, 0)) (Nat.le_refl _) (Nat.le_refl _) h)
theorem d_XNodes_has_0 : decode Y_XNodes_has.2.1 0 = .ok (.iload_n 1, 1) := by decide +kernel
theorem d_XNodes_has_1 : decode Y_XNodes_has.2.1 1 = .ok (.ifCond .lt (15), 3) := by decide +kernel
theorem d_XNodes_has_4 : decode Y_XNodes_has.2.1 4 = .ok (.iload_n 1, 1) := by decide +kernel
theorem d_XNodes_has_5 : decode Y_XNodes_has.2.1 5 = .ok (.aload_n 0, 1) := by decide +kernel
theorem d_XNodes_has_6 : decode Y_XNodes_has.2.1 6 = .ok (.getfield 40, 3) := by decide +kernel
theorem d_XNodes_has_9 : decode Y_XNodes_has.2.1 9 = .ok (.if_icmp .ge (7), 3) := by decide +kernel
theorem d_XNodes_has_12 : decode Y_XNodes_has.2.1 12 = .ok (.iconst 1, 1) := by decide +kernel
theorem d_XNodes_has_13 : decode Y_XNodes_has.2.1 13 = .ok (.goto (4), 3) := by decide +kernel
theorem d_XNodes_has_16 : decode Y_XNodes_has.2.1 16 = .ok (.iconst 0, 1) := by decide +kernel
theorem d_XNodes_has_17 : decode Y_XNodes_has.2.1 17 = .ok (.ireturn, 1) := by decide +kernel
def F_XNodes_has_17 (n : Nat) (s0 : Int32) (M : PM) : qO :=
  rZ s0 M
set_option maxHeartbeats 4000000 in
set_option maxRecDepth 100000 in
theorem E_XNodes_has_17 {g : qG} {X : qX} {Z : qZ} (hn : 0 ≤ zn Z) (hl : 0 ≤ zl Z) {n : Nat} {s0 : Int32} {M : PM} (h : F_XNodes_has_17 n s0 M = some (zr Z, zf Z)) : EW Y_XNodes_has g X Z 17 [] [.int s0] M := by
  unfold F_XNodes_has_17 at h
  obtain ⟨hb, h⟩ := rZ_inv h
  obtain ⟨hz, hm⟩ := Prod.mk.inj (Option.some.inj h)
  exact ew_zreturn d_XNodes_has_17 rfl hz.symm hm.symm hb
def F_XNodes_has_16 (n : Nat) (M : PM) : qO :=
  F_XNodes_has_17 n (0 : Int32) M
set_option maxHeartbeats 4000000 in
set_option maxRecDepth 100000 in
theorem E_XNodes_has_16 {g : qG} {X : qX} {Z : qZ} (hn : 0 ≤ zn Z) (hl : 0 ≤ zl Z) {n : Nat} {M : PM} (h : F_XNodes_has_16 n M = some (zr Z, zf Z)) : EW Y_XNodes_has g X Z 16 [] [] M := by
  unfold F_XNodes_has_16 at h
  refine ew_iconst (0) d_XNodes_has_16 (by decide) ?_
  exact E_XNodes_has_17 hn hl h
def F_XNodes_has (n : Nat) (l0 : Nat) (l1 : Int32) (M : PM) : qO :=
  if l1 < (0 : Int32) then
    F_XNodes_has_16 n M
  else
    gI 3 M l0 7 (fun v2 =>
    if v2 ≤ l1 then
      F_XNodes_has_16 n M
    else
      F_XNodes_has_17 n (1 : Int32) M)
set_option maxHeartbeats 4000000 in
set_option maxRecDepth 100000 in
theorem E_XNodes_has {g : qG} {X : qX} {Z : qZ} (hn : 0 ≤ zn Z) (hl : 0 ≤ zl Z) {n : Nat} {l0 : Nat} {l1 : Int32} {M : PM} (h : F_XNodes_has n l0 l1 M = some (zr Z, zf Z)) : EW Y_XNodes_has g X Z 0 [(0, .ref l0), (1, .int l1)] [] M := by
  unfold F_XNodes_has at h
  refine ew_iload_n 1 d_XNodes_has_0 rfl rfl ?_
  refine ew_if_lt 16 d_XNodes_has_1 (by decide) (fun c1 => ?_) (fun c1 => ?_)
  · rw [if_pos c1] at h
    exact ew_pick (L' := []) [] rfl (E_XNodes_has_16 hn hl h)
  · rw [if_neg c1] at h
    refine ew_iload_n 1 d_XNodes_has_4 rfl rfl ?_
    refine ew_aload_n 0 d_XNodes_has_5 rfl rfl ?_
    obtain ⟨v2, av2, bv2, h⟩ := gI_inv h
    refine ew_gI 3 7 d_XNodes_has_6 fl_XNodes_40 av2 bv2 ?_
    refine ew_icmp_ge 16 d_XNodes_has_9 (by decide) (fun c3 => ?_) (fun c3 => ?_)
    · rw [if_pos c3] at h
      exact ew_pick (L' := []) [] rfl (E_XNodes_has_16 hn hl h)
    · rw [if_neg c3] at h
      refine ew_iconst (1) d_XNodes_has_12 (by decide) ?_
      refine ew_goto 17 d_XNodes_has_13 (by decide) ?_
      exact ew_pick (L' := []) [] rfl (E_XNodes_has_17 hn hl h)
theorem T_XNodes_has {n : Nat} {l0 : Nat} {l1 : Int32} {M Mf : PM} {res : qRs} (h : F_XNodes_has n l0 l1 M = some (res, Mf)) : CT Y_XNodes_has 0 0 [.ref l0, .int l1] M res Mf :=
  CT_of (by decide) (Nat.le_of_ble_eq_true rfl) (qHd_ne (by decide)) (fun g X ad0 => E_XNodes_has (g := g) (X := X) (Z := (ad0, M, res, Mf, 0, 0)) (Nat.le_refl _) (Nat.le_refl _) h)
theorem d_XNodes_mark_0 : decode Y_XNodes_mark.2.1 0 = .ok (.aload_n 0, 1) := by decide +kernel
theorem d_XNodes_mark_1 : decode Y_XNodes_mark.2.1 1 = .ok (.iload_n 2, 1) := by decide +kernel
theorem d_XNodes_mark_2 : decode Y_XNodes_mark.2.1 2 = .ok (.invokevirtual 57, 3) := by decide +kernel
theorem d_XNodes_mark_5 : decode Y_XNodes_mark.2.1 5 = .ok (.ifCond .eq (13), 3) := by decide +kernel
theorem d_XNodes_mark_8 : decode Y_XNodes_mark.2.1 8 = .ok (.iload_n 2, 1) := by decide +kernel
theorem d_XNodes_mark_9 : decode Y_XNodes_mark.2.1 9 = .ok (.aload_n 1, 1) := by decide +kernel
theorem d_XNodes_mark_10 : decode Y_XNodes_mark.2.1 10 = .ok (.arraylength, 1) := by decide +kernel
theorem d_XNodes_mark_11 : decode Y_XNodes_mark.2.1 11 = .ok (.if_icmp .ge (7), 3) := by decide +kernel
theorem d_XNodes_mark_14 : decode Y_XNodes_mark.2.1 14 = .ok (.aload_n 1, 1) := by decide +kernel
theorem d_XNodes_mark_15 : decode Y_XNodes_mark.2.1 15 = .ok (.iload_n 2, 1) := by decide +kernel
theorem d_XNodes_mark_16 : decode Y_XNodes_mark.2.1 16 = .ok (.iconst 1, 1) := by decide +kernel
theorem d_XNodes_mark_17 : decode Y_XNodes_mark.2.1 17 = .ok (.bastore, 1) := by decide +kernel
theorem d_XNodes_mark_18 : decode Y_XNodes_mark.2.1 18 = .ok (.return_, 1) := by decide +kernel
def F_XNodes_mark_18 (n : Nat) (M : PM) : qO :=
  some (.inl none, M)
set_option maxHeartbeats 4000000 in
set_option maxRecDepth 100000 in
theorem E_XNodes_mark_18 {g : qG} {X : qX} {Z : qZ} (hn : 1 ≤ zn Z) (hl : 21 ≤ zl Z) {n : Nat} {M : PM} (h : F_XNodes_mark_18 n M = some (zr Z, zf Z)) : EW Y_XNodes_mark g X Z 18 [] [] M := by
  unfold F_XNodes_mark_18 at h
  obtain ⟨hz, hm⟩ := Prod.mk.inj (Option.some.inj h)
  exact ew_return d_XNodes_mark_18 rfl hz.symm hm.symm
def F_XNodes_mark (n : Nat) (l0 : Nat) (l1 : Nat) (l2 : Int32) (M : PM) : qO :=
  kO 3 M l0 (
  cI (F_XNodes_has n l0 l2 M) (fun v2 M1 =>
  if v2 = (0 : Int32) then
    F_XNodes_mark_18 n M1
  else
    aL M1 l1 (fun v4 =>
    if v4 ≤ l2 then
      F_XNodes_mark_18 n M1
    else
      wZ M1 l1 l2 (1 : Int32) (fun M6 =>
      F_XNodes_mark_18 n M6))))
set_option maxHeartbeats 4000000 in
set_option maxRecDepth 100000 in
theorem E_XNodes_mark {g : qG} {X : qX} {Z : qZ} (hn : 1 ≤ zn Z) (hl : 21 ≤ zl Z) {n : Nat} {l0 : Nat} {l1 : Nat} {l2 : Int32} {M : PM} (h : F_XNodes_mark n l0 l1 l2 M = some (zr Z, zf Z)) : EW Y_XNodes_mark g X Z 0 [(0, .ref l0), (1, .ref l1), (2, .int l2)] [] M := by
  unfold F_XNodes_mark at h
  refine ew_aload_n 0 d_XNodes_mark_0 rfl rfl ?_
  refine ew_iload_n 2 d_XNodes_mark_1 rfl rfl ?_
  obtain ⟨kM1, h⟩ := kO_inv h
  obtain ⟨v2, M1, hM1, h⟩ := cI_inv h
  refine ew_callV 3 [.int l2] d_XNodes_mark_2 cv_XNodes_57 (T_XNodes_has hM1) kM1 (Nat.le_trans (Nat.le_of_ble_eq_true rfl) hn) (Nat.le_trans (Nat.le_of_ble_eq_true rfl) hl) (Nat.le_of_ble_eq_true rfl) rfl rfl ?_
  refine ew_if_eq 18 d_XNodes_mark_5 (by decide) (fun c3 => ?_) (fun c3 => ?_)
  · rw [if_pos c3] at h
    exact ew_pick (L' := []) [] rfl (E_XNodes_mark_18 hn hl h)
  · rw [if_neg c3] at h
    refine ew_iload_n 2 d_XNodes_mark_8 rfl rfl ?_
    refine ew_aload_n 1 d_XNodes_mark_9 rfl rfl ?_
    obtain ⟨v4, av4, ev4, h⟩ := aL_inv h
    refine ew_aL d_XNodes_mark_10 av4 ev4 ?_
    refine ew_icmp_ge 18 d_XNodes_mark_11 (by decide) (fun c5 => ?_) (fun c5 => ?_)
    · rw [if_pos c5] at h
      exact ew_pick (L' := []) [] rfl (E_XNodes_mark_18 hn hl h)
    · rw [if_neg c5] at h
      refine ew_aload_n 1 d_XNodes_mark_14 rfl rfl ?_
      refine ew_iload_n 2 d_XNodes_mark_15 rfl rfl ?_
      refine ew_iconst (1) d_XNodes_mark_16 (by decide) ?_
      obtain ⟨M6, aM6, bM6, cM6, eM6, h⟩ := wZ_inv h
      refine ew_wZ d_XNodes_mark_17 aM6 bM6 cM6 eM6 ?_
      exact ew_pick (L' := []) [] rfl (E_XNodes_mark_18 hn hl h)
theorem T_XNodes_mark {n : Nat} {l0 : Nat} {l1 : Nat} {l2 : Int32} {M Mf : PM} {res : qRs} (h : F_XNodes_mark n l0 l1 l2 M = some (res, Mf)) : CT Y_XNodes_mark 1 21 [.ref l0, .ref l1, .int l2] M res Mf :=
  CT_of (by decide) (Nat.le_of_ble_eq_true rfl) (qHd_ne (by decide)) (fun g X ad0 => E_XNodes_mark (g := g) (X := X) (Z := (ad0, M, res, Mf, 1, 21)) (Nat.le_refl _) (Nat.le_refl _) h)
