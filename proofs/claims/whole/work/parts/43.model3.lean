theorem d_XModel_hasFetch_0 : decode Y_XModel_hasFetch.2.1 0 = .ok (.aload_n 0, 1) := by decide +kernel
theorem d_XModel_hasFetch_1 : decode Y_XModel_hasFetch.2.1 1 = .ok (.invokevirtual 146, 3) := by decide +kernel
theorem d_XModel_hasFetch_4 : decode Y_XModel_hasFetch.2.1 4 = .ok (.aload_n 0, 1) := by decide +kernel
theorem d_XModel_hasFetch_5 : decode Y_XModel_hasFetch.2.1 5 = .ok (.iload_n 1, 1) := by decide +kernel
theorem d_XModel_hasFetch_6 : decode Y_XModel_hasFetch.2.1 6 = .ok (.invokevirtual 143, 3) := by decide +kernel
theorem d_XModel_hasFetch_9 : decode Y_XModel_hasFetch.2.1 9 = .ok (.aload_n 0, 1) := by decide +kernel
theorem d_XModel_hasFetch_10 : decode Y_XModel_hasFetch.2.1 10 = .ok (.invokevirtual 149, 3) := by decide +kernel
theorem d_XModel_hasFetch_13 : decode Y_XModel_hasFetch.2.1 13 = .ok (.aload_n 0, 1) := by decide +kernel
theorem d_XModel_hasFetch_14 : decode Y_XModel_hasFetch.2.1 14 = .ok (.getfield 63, 3) := by decide +kernel
theorem d_XModel_hasFetch_17 : decode Y_XModel_hasFetch.2.1 17 = .ok (.iconst 2, 1) := by decide +kernel
theorem d_XModel_hasFetch_18 : decode Y_XModel_hasFetch.2.1 18 = .ok (.baload, 1) := by decide +kernel
theorem d_XModel_hasFetch_19 : decode Y_XModel_hasFetch.2.1 19 = .ok (.ireturn, 1) := by decide +kernel
def F_XModel_hasFetch (n : Nat) (l0 : Nat) (l1 : Int32) (M : PM) : qO :=
  kO 0 M l0 (
  cV (F_XModel_unmark n l0 M) (fun M1 =>
  kO 0 M1 l0 (
  cV (F_XModel_mark n l0 l1 M1) (fun M2 =>
  kO 0 M2 l0 (
  cV (F_XModel_markParts n l0 M2) (fun M3 =>
  gR 0 M3 l0 21 (fun v4 =>
  lZ M3 v4 (2 : Int32) (fun v5 =>
  rZ v5 M3))))))))
set_option maxHeartbeats 4000000 in
set_option maxRecDepth 100000 in
theorem E_XModel_hasFetch {g : qG} {X : qX} {Z : qZ} (hn : 2 ≤ zn Z) (hl : 42 ≤ zl Z) {n : Nat} {l0 : Nat} {l1 : Int32} {M : PM} (h : F_XModel_hasFetch n l0 l1 M = some (zr Z, zf Z)) : EW Y_XModel_hasFetch g X Z 0 [(0, .ref l0), (1, .int l1)] [] M := by
  unfold F_XModel_hasFetch at h
  refine ew_aload_n 0 d_XModel_hasFetch_0 rfl rfl ?_
  obtain ⟨kM1, h⟩ := kO_inv h
  obtain ⟨M1, hM1, h⟩ := cV_inv h
  refine ew_callV 0 [] d_XModel_hasFetch_1 cv_XModel_146 (T_XModel_unmark hM1) kM1 (Nat.le_trans (Nat.le_of_ble_eq_true rfl) hn) (Nat.le_trans (Nat.le_of_ble_eq_true rfl) hl) (Nat.le_of_ble_eq_true rfl) rfl rfl ?_
  refine ew_aload_n 0 d_XModel_hasFetch_4 rfl rfl ?_
  refine ew_iload_n 1 d_XModel_hasFetch_5 rfl rfl ?_
  obtain ⟨kM2, h⟩ := kO_inv h
  obtain ⟨M2, hM2, h⟩ := cV_inv h
  refine ew_callV 0 [.int l1] d_XModel_hasFetch_6 cv_XModel_143 (T_XModel_mark hM2) kM2 (Nat.le_trans (Nat.le_of_ble_eq_true rfl) hn) (Nat.le_trans (Nat.le_of_ble_eq_true rfl) hl) (Nat.le_of_ble_eq_true rfl) rfl rfl ?_
  refine ew_aload_n 0 d_XModel_hasFetch_9 rfl rfl ?_
  obtain ⟨kM3, h⟩ := kO_inv h
  obtain ⟨M3, hM3, h⟩ := cV_inv h
  refine ew_callV 0 [] d_XModel_hasFetch_10 cv_XModel_149 (T_XModel_markParts hM3) kM3 (Nat.le_trans (Nat.le_of_ble_eq_true rfl) hn) (Nat.le_trans (Nat.le_of_ble_eq_true rfl) hl) (Nat.le_of_ble_eq_true rfl) rfl rfl ?_
  refine ew_aload_n 0 d_XModel_hasFetch_13 rfl rfl ?_
  obtain ⟨v4, av4, bv4, h⟩ := gR_inv h
  refine ew_gR 0 21 d_XModel_hasFetch_14 fl_XModel_63 av4 bv4 ?_
  refine ew_iconst (2) d_XModel_hasFetch_17 (by decide) ?_
  obtain ⟨v5, av5, bv5, cv5, ev5, h⟩ := lZ_inv h
  refine ew_lZ d_XModel_hasFetch_18 av5 bv5 cv5 ev5 ?_
  obtain ⟨hb, h⟩ := rZ_inv h
  obtain ⟨hz, hm⟩ := Prod.mk.inj (Option.some.inj h)
  exact ew_zreturn d_XModel_hasFetch_19 rfl hz.symm hm.symm hb
theorem T_XModel_hasFetch {n : Nat} {l0 : Nat} {l1 : Int32} {M Mf : PM} {res : qRs} (h : F_XModel_hasFetch n l0 l1 M = some (res, Mf)) : CT Y_XModel_hasFetch 2 42 [.ref l0, .int l1] M res Mf :=
  CT_of (by decide) (Nat.le_of_ble_eq_true rfl) (qHd_ne (by decide)) (fun g X ad0 => E_XModel_hasFetch (g := g) (X := X) (Z := (ad0, M, res, Mf, 2, 42)) (Nat.le_refl _) (Nat.le_refl _) h)
theorem d_XModel_plain_0 : decode Y_XModel_plain.2.1 0 = .ok (.aload_n 0, 1) := by decide +kernel
theorem d_XModel_plain_1 : decode Y_XModel_plain.2.1 1 = .ok (.aload_n 0, 1) := by decide +kernel
theorem d_XModel_plain_2 : decode Y_XModel_plain.2.1 2 = .ok (.iload_n 1, 1) := by decide +kernel
theorem d_XModel_plain_3 : decode Y_XModel_plain.2.1 3 = .ok (.invokevirtual 136, 3) := by decide +kernel
theorem d_XModel_plain_6 : decode Y_XModel_plain.2.1 6 = .ok (.ifCond .eq (11), 3) := by decide +kernel
theorem d_XModel_plain_9 : decode Y_XModel_plain.2.1 9 = .ok (.aload_n 0, 1) := by decide +kernel
theorem d_XModel_plain_10 : decode Y_XModel_plain.2.1 10 = .ok (.iload_n 2, 1) := by decide +kernel
theorem d_XModel_plain_11 : decode Y_XModel_plain.2.1 11 = .ok (.invokevirtual 125, 3) := by decide +kernel
theorem d_XModel_plain_14 : decode Y_XModel_plain.2.1 14 = .ok (.ifCond .ne (7), 3) := by decide +kernel
theorem d_XModel_plain_17 : decode Y_XModel_plain.2.1 17 = .ok (.iconst 1, 1) := by decide +kernel
theorem d_XModel_plain_18 : decode Y_XModel_plain.2.1 18 = .ok (.goto (25), 3) := by decide +kernel
theorem d_XModel_plain_21 : decode Y_XModel_plain.2.1 21 = .ok (.aload_n 0, 1) := by decide +kernel
theorem d_XModel_plain_22 : decode Y_XModel_plain.2.1 22 = .ok (.iload_n 1, 1) := by decide +kernel
theorem d_XModel_plain_23 : decode Y_XModel_plain.2.1 23 = .ok (.iload_n 2, 1) := by decide +kernel
theorem d_XModel_plain_24 : decode Y_XModel_plain.2.1 24 = .ok (.invokevirtual 139, 3) := by decide +kernel
theorem d_XModel_plain_27 : decode Y_XModel_plain.2.1 27 = .ok (.ifCond .eq (15), 3) := by decide +kernel
theorem d_XModel_plain_30 : decode Y_XModel_plain.2.1 30 = .ok (.aload_n 0, 1) := by decide +kernel
theorem d_XModel_plain_31 : decode Y_XModel_plain.2.1 31 = .ok (.iload_n 2, 1) := by decide +kernel
theorem d_XModel_plain_32 : decode Y_XModel_plain.2.1 32 = .ok (.invokevirtual 152, 3) := by decide +kernel
theorem d_XModel_plain_35 : decode Y_XModel_plain.2.1 35 = .ok (.ifCond .ne (7), 3) := by decide +kernel
theorem d_XModel_plain_38 : decode Y_XModel_plain.2.1 38 = .ok (.iconst 0, 1) := by decide +kernel
theorem d_XModel_plain_39 : decode Y_XModel_plain.2.1 39 = .ok (.goto (4), 3) := by decide +kernel
theorem d_XModel_plain_42 : decode Y_XModel_plain.2.1 42 = .ok (.iconst 2, 1) := by decide +kernel
theorem d_XModel_plain_43 : decode Y_XModel_plain.2.1 43 = .ok (.putfield 87, 3) := by decide +kernel
theorem d_XModel_plain_46 : decode Y_XModel_plain.2.1 46 = .ok (.aload_n 0, 1) := by decide +kernel
theorem d_XModel_plain_47 : decode Y_XModel_plain.2.1 47 = .ok (.getfield 87, 3) := by decide +kernel
theorem d_XModel_plain_50 : decode Y_XModel_plain.2.1 50 = .ok (.ifCond .le (5), 3) := by decide +kernel
theorem d_XModel_plain_53 : decode Y_XModel_plain.2.1 53 = .ok (.iconst 0, 1) := by decide +kernel
theorem d_XModel_plain_54 : decode Y_XModel_plain.2.1 54 = .ok (.ireturn, 1) := by decide +kernel
theorem d_XModel_plain_55 : decode Y_XModel_plain.2.1 55 = .ok (.aload_n 0, 1) := by decide +kernel
theorem d_XModel_plain_56 : decode Y_XModel_plain.2.1 56 = .ok (.getfield 45, 3) := by decide +kernel
theorem d_XModel_plain_59 : decode Y_XModel_plain.2.1 59 = .ok (.iload_n 1, 1) := by decide +kernel
theorem d_XModel_plain_60 : decode Y_XModel_plain.2.1 60 = .ok (.baload, 1) := by decide +kernel
theorem d_XModel_plain_61 : decode Y_XModel_plain.2.1 61 = .ok (.istore_n 3, 1) := by decide +kernel
theorem d_XModel_plain_62 : decode Y_XModel_plain.2.1 62 = .ok (.aload_n 0, 1) := by decide +kernel
theorem d_XModel_plain_63 : decode Y_XModel_plain.2.1 63 = .ok (.getfield 42, 3) := by decide +kernel
theorem d_XModel_plain_66 : decode Y_XModel_plain.2.1 66 = .ok (.iload_n 1, 1) := by decide +kernel
theorem d_XModel_plain_67 : decode Y_XModel_plain.2.1 67 = .ok (.iload_n 2, 1) := by decide +kernel
theorem d_XModel_plain_68 : decode Y_XModel_plain.2.1 68 = .ok (.iastore, 1) := by decide +kernel
theorem d_XModel_plain_69 : decode Y_XModel_plain.2.1 69 = .ok (.aload_n 0, 1) := by decide +kernel
theorem d_XModel_plain_70 : decode Y_XModel_plain.2.1 70 = .ok (.getfield 45, 3) := by decide +kernel
theorem d_XModel_plain_73 : decode Y_XModel_plain.2.1 73 = .ok (.iload_n 1, 1) := by decide +kernel
theorem d_XModel_plain_74 : decode Y_XModel_plain.2.1 74 = .ok (.iconst 1, 1) := by decide +kernel
theorem d_XModel_plain_75 : decode Y_XModel_plain.2.1 75 = .ok (.bastore, 1) := by decide +kernel
theorem d_XModel_plain_76 : decode Y_XModel_plain.2.1 76 = .ok (.iload_n 3, 1) := by decide +kernel
theorem d_XModel_plain_77 : decode Y_XModel_plain.2.1 77 = .ok (.ireturn, 1) := by decide +kernel
def F_XModel_plain_43 (n : Nat) (l0 : Nat) (l1 : Int32) (l2 : Int32) (s0 : Nat) (s1 : Int32) (M : PM) : qO :=
  pF 0 M s0 0 (.int s1) (fun M1 =>
  gI 0 M1 l0 0 (fun v2 =>
  if v2 ≤ (0 : Int32) then
    gR 0 M1 l0 15 (fun v4 =>
    lZ M1 v4 l1 (fun v5 =>
    gR 0 M1 l0 14 (fun v6 =>
    wI M1 v6 l1 l2 (fun M7 =>
    gR 0 M7 l0 15 (fun v8 =>
    wZ M7 v8 l1 (1 : Int32) (fun M9 =>
    rZ v5 M9))))))
  else
    some (.inl (some (.int (0 : Int32))), M1)))
set_option maxHeartbeats 4000000 in
set_option maxRecDepth 100000 in
theorem E_XModel_plain_43 {g : qG} {X : qX} {Z : qZ} (hn : 3 ≤ zn Z) (hl : 63 ≤ zl Z) {n : Nat} {l0 : Nat} {l1 : Int32} {l2 : Int32} {s0 : Nat} {s1 : Int32} {M : PM} (h : F_XModel_plain_43 n l0 l1 l2 s0 s1 M = some (zr Z, zf Z)) : EW Y_XModel_plain g X Z 43 [(0, .ref l0), (1, .int l1), (2, .int l2)] [.int s1, .ref s0] M := by
  unfold F_XModel_plain_43 at h
  obtain ⟨M1, aM1, eM1, h⟩ := pF_inv h
  refine ew_pF 0 0 d_XModel_plain_43 fl_XModel_87 aM1 eM1 (fun ad => ⟨rfl, rfl⟩) ?_
  refine ew_aload_n 0 d_XModel_plain_46 rfl rfl ?_
  obtain ⟨v2, av2, bv2, h⟩ := gI_inv h
  refine ew_gI 0 0 d_XModel_plain_47 fl_XModel_87 av2 bv2 ?_
  refine ew_if_le 55 d_XModel_plain_50 (by decide) (fun c3 => ?_) (fun c3 => ?_)
  · rw [if_pos c3] at h
    refine ew_aload_n 0 d_XModel_plain_55 rfl rfl ?_
    obtain ⟨v4, av4, bv4, h⟩ := gR_inv h
    refine ew_gR 0 15 d_XModel_plain_56 fl_XModel_45 av4 bv4 ?_
    refine ew_iload_n 1 d_XModel_plain_59 rfl rfl ?_
    obtain ⟨v5, av5, bv5, cv5, ev5, h⟩ := lZ_inv h
    refine ew_lZ d_XModel_plain_60 av5 bv5 cv5 ev5 ?_
    refine ew_istore_n (L' := [(0, .ref l0), (1, .int l1), (2, .int l2), (3, .int v5)]) 3 [1, 2, 3, 0] d_XModel_plain_61 rfl (by decide) rfl ?_
    refine ew_aload_n 0 d_XModel_plain_62 rfl rfl ?_
    obtain ⟨v6, av6, bv6, h⟩ := gR_inv h
    refine ew_gR 0 14 d_XModel_plain_63 fl_XModel_42 av6 bv6 ?_
    refine ew_iload_n 1 d_XModel_plain_66 rfl rfl ?_
    refine ew_iload_n 2 d_XModel_plain_67 rfl rfl ?_
    obtain ⟨M7, aM7, bM7, cM7, eM7, h⟩ := wI_inv h
    refine ew_wI d_XModel_plain_68 aM7 bM7 cM7 eM7 ?_
    refine ew_aload_n 0 d_XModel_plain_69 rfl rfl ?_
    obtain ⟨v8, av8, bv8, h⟩ := gR_inv h
    refine ew_gR 0 15 d_XModel_plain_70 fl_XModel_45 av8 bv8 ?_
    refine ew_iload_n 1 d_XModel_plain_73 rfl rfl ?_
    refine ew_iconst (1) d_XModel_plain_74 (by decide) ?_
    obtain ⟨M9, aM9, bM9, cM9, eM9, h⟩ := wZ_inv h
    refine ew_wZ d_XModel_plain_75 aM9 bM9 cM9 eM9 ?_
    refine ew_iload_n 3 d_XModel_plain_76 rfl rfl ?_
    obtain ⟨hb, h⟩ := rZ_inv h
    obtain ⟨hz, hm⟩ := Prod.mk.inj (Option.some.inj h)
    exact ew_zreturn d_XModel_plain_77 rfl hz.symm hm.symm hb
  · rw [if_neg c3] at h
    refine ew_iconst (0) d_XModel_plain_53 (by decide) ?_
    obtain ⟨hz, hm⟩ := Prod.mk.inj (Option.some.inj h)
    exact ew_zreturn d_XModel_plain_54 rfl hz.symm hm.symm rfl
def F_XModel_plain_17 (n : Nat) (l0 : Nat) (l1 : Int32) (l2 : Int32) (s0 : Nat) (M : PM) : qO :=
  F_XModel_plain_43 n l0 l1 l2 s0 (1 : Int32) M
set_option maxHeartbeats 4000000 in
set_option maxRecDepth 100000 in
theorem E_XModel_plain_17 {g : qG} {X : qX} {Z : qZ} (hn : 3 ≤ zn Z) (hl : 63 ≤ zl Z) {n : Nat} {l0 : Nat} {l1 : Int32} {l2 : Int32} {s0 : Nat} {M : PM} (h : F_XModel_plain_17 n l0 l1 l2 s0 M = some (zr Z, zf Z)) : EW Y_XModel_plain g X Z 17 [(0, .ref l0), (1, .int l1), (2, .int l2)] [.ref s0] M := by
  unfold F_XModel_plain_17 at h
  refine ew_iconst (1) d_XModel_plain_17 (by decide) ?_
  refine ew_goto 43 d_XModel_plain_18 (by decide) ?_
  exact E_XModel_plain_43 hn hl h
def F_XModel_plain_42 (n : Nat) (l0 : Nat) (l1 : Int32) (l2 : Int32) (s0 : Nat) (M : PM) : qO :=
  F_XModel_plain_43 n l0 l1 l2 s0 (2 : Int32) M
set_option maxHeartbeats 4000000 in
set_option maxRecDepth 100000 in
theorem E_XModel_plain_42 {g : qG} {X : qX} {Z : qZ} (hn : 3 ≤ zn Z) (hl : 63 ≤ zl Z) {n : Nat} {l0 : Nat} {l1 : Int32} {l2 : Int32} {s0 : Nat} {M : PM} (h : F_XModel_plain_42 n l0 l1 l2 s0 M = some (zr Z, zf Z)) : EW Y_XModel_plain g X Z 42 [(0, .ref l0), (1, .int l1), (2, .int l2)] [.ref s0] M := by
  unfold F_XModel_plain_42 at h
  refine ew_iconst (2) d_XModel_plain_42 (by decide) ?_
  exact E_XModel_plain_43 hn hl h
def F_XModel_plain (n : Nat) (l0 : Nat) (l1 : Int32) (l2 : Int32) (M : PM) : qO :=
  kO 0 M l0 (
  cI (F_XModel_isElement n l0 l1 M) (fun v2 M1 =>
  if v2 = (0 : Int32) then
    F_XModel_plain_17 n l0 l1 l2 l0 M1
  else
    kO 0 M1 l0 (
    cI (F_XModel_isNode n l0 l2 M1) (fun v5 M4 =>
    if v5 = (0 : Int32) then
      F_XModel_plain_17 n l0 l1 l2 l0 M4
    else
      kO 0 M4 l0 (
      cI (F_XModel_isOfSort n l0 l1 l2 M4) (fun v8 M7 =>
      if v8 = (0 : Int32) then
        F_XModel_plain_42 n l0 l1 l2 l0 M7
      else
        kO 0 M7 l0 (
        cI (F_XModel_hasFetch n l0 l2 M7) (fun v11 M10 =>
        if v11 = (0 : Int32) then
          F_XModel_plain_43 n l0 l1 l2 l0 (0 : Int32) M10
        else
          F_XModel_plain_42 n l0 l1 l2 l0 M10))))))))
set_option maxHeartbeats 4000000 in
set_option maxRecDepth 100000 in
theorem E_XModel_plain {g : qG} {X : qX} {Z : qZ} (hn : 3 ≤ zn Z) (hl : 63 ≤ zl Z) {n : Nat} {l0 : Nat} {l1 : Int32} {l2 : Int32} {M : PM} (h : F_XModel_plain n l0 l1 l2 M = some (zr Z, zf Z)) : EW Y_XModel_plain g X Z 0 [(0, .ref l0), (1, .int l1), (2, .int l2)] [] M := by
  unfold F_XModel_plain at h
  refine ew_aload_n 0 d_XModel_plain_0 rfl rfl ?_
  refine ew_aload_n 0 d_XModel_plain_1 rfl rfl ?_
  refine ew_iload_n 1 d_XModel_plain_2 rfl rfl ?_
  obtain ⟨kM1, h⟩ := kO_inv h
  obtain ⟨v2, M1, hM1, h⟩ := cI_inv h
  refine ew_callV 0 [.int l1] d_XModel_plain_3 cv_XModel_136 (T_XModel_isElement hM1) kM1 (Nat.le_trans (Nat.le_of_ble_eq_true rfl) hn) (Nat.le_trans (Nat.le_of_ble_eq_true rfl) hl) (Nat.le_of_ble_eq_true rfl) rfl rfl ?_
  refine ew_if_eq 17 d_XModel_plain_6 (by decide) (fun c3 => ?_) (fun c3 => ?_)
  · rw [if_pos c3] at h
    exact E_XModel_plain_17 hn hl h
  · rw [if_neg c3] at h
    refine ew_aload_n 0 d_XModel_plain_9 rfl rfl ?_
    refine ew_iload_n 2 d_XModel_plain_10 rfl rfl ?_
    obtain ⟨kM4, h⟩ := kO_inv h
    obtain ⟨v5, M4, hM4, h⟩ := cI_inv h
    refine ew_callV 0 [.int l2] d_XModel_plain_11 cv_XModel_125 (T_XModel_isNode hM4) kM4 (Nat.le_trans (Nat.le_of_ble_eq_true rfl) hn) (Nat.le_trans (Nat.le_of_ble_eq_true rfl) hl) (Nat.le_of_ble_eq_true rfl) rfl rfl ?_
    refine ew_if_ne 21 d_XModel_plain_14 (by decide) (fun c6 => ?_) (fun c6 => ?_)
    · rw [if_neg c6] at h
      refine ew_aload_n 0 d_XModel_plain_21 rfl rfl ?_
      refine ew_iload_n 1 d_XModel_plain_22 rfl rfl ?_
      refine ew_iload_n 2 d_XModel_plain_23 rfl rfl ?_
      obtain ⟨kM7, h⟩ := kO_inv h
      obtain ⟨v8, M7, hM7, h⟩ := cI_inv h
      refine ew_callV 0 [.int l1, .int l2] d_XModel_plain_24 cv_XModel_139 (T_XModel_isOfSort hM7) kM7 (Nat.le_trans (Nat.le_of_ble_eq_true rfl) hn) (Nat.le_trans (Nat.le_of_ble_eq_true rfl) hl) (Nat.le_of_ble_eq_true rfl) rfl rfl ?_
      refine ew_if_eq 42 d_XModel_plain_27 (by decide) (fun c9 => ?_) (fun c9 => ?_)
      · rw [if_pos c9] at h
        exact E_XModel_plain_42 hn hl h
      · rw [if_neg c9] at h
        refine ew_aload_n 0 d_XModel_plain_30 rfl rfl ?_
        refine ew_iload_n 2 d_XModel_plain_31 rfl rfl ?_
        obtain ⟨kM10, h⟩ := kO_inv h
        obtain ⟨v11, M10, hM10, h⟩ := cI_inv h
        refine ew_callV 0 [.int l2] d_XModel_plain_32 cv_XModel_152 (T_XModel_hasFetch hM10) kM10 (Nat.le_trans (Nat.le_of_ble_eq_true rfl) hn) (Nat.le_trans (Nat.le_of_ble_eq_true rfl) hl) (Nat.le_of_ble_eq_true rfl) rfl rfl ?_
        refine ew_if_ne 42 d_XModel_plain_35 (by decide) (fun c12 => ?_) (fun c12 => ?_)
        · rw [if_neg c12] at h
          exact E_XModel_plain_42 hn hl h
        · rw [if_pos c12] at h
          refine ew_iconst (0) d_XModel_plain_38 (by decide) ?_
          refine ew_goto 43 d_XModel_plain_39 (by decide) ?_
          exact E_XModel_plain_43 hn hl h
    · rw [if_pos c6] at h
      exact E_XModel_plain_17 hn hl h
theorem T_XModel_plain {n : Nat} {l0 : Nat} {l1 : Int32} {l2 : Int32} {M Mf : PM} {res : qRs} (h : F_XModel_plain n l0 l1 l2 M = some (res, Mf)) : CT Y_XModel_plain 3 63 [.ref l0, .int l1, .int l2] M res Mf :=
  CT_of (by decide) (Nat.le_of_ble_eq_true rfl) (qHd_ne (by decide)) (fun g X ad0 => E_XModel_plain (g := g) (X := X) (Z := (ad0, M, res, Mf, 3, 63)) (Nat.le_refl _) (Nat.le_refl _) h)
theorem d_XModel_invariant_0 : decode Y_XModel_invariant.2.1 0 = .ok (.aload_n 0, 1) := by decide +kernel
theorem d_XModel_invariant_1 : decode Y_XModel_invariant.2.1 1 = .ok (.iconst 0, 1) := by decide +kernel
theorem d_XModel_invariant_2 : decode Y_XModel_invariant.2.1 2 = .ok (.putfield 87, 3) := by decide +kernel
theorem d_XModel_invariant_5 : decode Y_XModel_invariant.2.1 5 = .ok (.aload_n 0, 1) := by decide +kernel
theorem d_XModel_invariant_6 : decode Y_XModel_invariant.2.1 6 = .ok (.iload_n 1, 1) := by decide +kernel
theorem d_XModel_invariant_7 : decode Y_XModel_invariant.2.1 7 = .ok (.invokevirtual 125, 3) := by decide +kernel
theorem d_XModel_invariant_10 : decode Y_XModel_invariant.2.1 10 = .ok (.ifCond .ne (9), 3) := by decide +kernel
theorem d_XModel_invariant_13 : decode Y_XModel_invariant.2.1 13 = .ok (.aload_n 0, 1) := by decide +kernel
theorem d_XModel_invariant_14 : decode Y_XModel_invariant.2.1 14 = .ok (.iconst 1, 1) := by decide +kernel
theorem d_XModel_invariant_15 : decode Y_XModel_invariant.2.1 15 = .ok (.invokevirtual 111, 3) := by decide +kernel
theorem d_XModel_invariant_18 : decode Y_XModel_invariant.2.1 18 = .ok (.ireturn, 1) := by decide +kernel
theorem d_XModel_invariant_19 : decode Y_XModel_invariant.2.1 19 = .ok (.aload_n 0, 1) := by decide +kernel
theorem d_XModel_invariant_20 : decode Y_XModel_invariant.2.1 20 = .ok (.iload_n 1, 1) := by decide +kernel
theorem d_XModel_invariant_21 : decode Y_XModel_invariant.2.1 21 = .ok (.invokevirtual 129, 3) := by decide +kernel
theorem d_XModel_invariant_24 : decode Y_XModel_invariant.2.1 24 = .ok (.ifCond .ne (11), 3) := by decide +kernel
theorem d_XModel_invariant_27 : decode Y_XModel_invariant.2.1 27 = .ok (.aload_n 0, 1) := by decide +kernel
theorem d_XModel_invariant_28 : decode Y_XModel_invariant.2.1 28 = .ok (.iload_n 1, 1) := by decide +kernel
theorem d_XModel_invariant_29 : decode Y_XModel_invariant.2.1 29 = .ok (.invokevirtual 152, 3) := by decide +kernel
theorem d_XModel_invariant_32 : decode Y_XModel_invariant.2.1 32 = .ok (.ifCond .eq (9), 3) := by decide +kernel
theorem d_XModel_invariant_35 : decode Y_XModel_invariant.2.1 35 = .ok (.aload_n 0, 1) := by decide +kernel
theorem d_XModel_invariant_36 : decode Y_XModel_invariant.2.1 36 = .ok (.iconst 2, 1) := by decide +kernel
theorem d_XModel_invariant_37 : decode Y_XModel_invariant.2.1 37 = .ok (.invokevirtual 111, 3) := by decide +kernel
theorem d_XModel_invariant_40 : decode Y_XModel_invariant.2.1 40 = .ok (.ireturn, 1) := by decide +kernel
theorem d_XModel_invariant_41 : decode Y_XModel_invariant.2.1 41 = .ok (.aload_n 0, 1) := by decide +kernel
theorem d_XModel_invariant_42 : decode Y_XModel_invariant.2.1 42 = .ok (.getfield 155, 3) := by decide +kernel
theorem d_XModel_invariant_45 : decode Y_XModel_invariant.2.1 45 = .ok (.bipush (8), 2) := by decide +kernel
theorem d_XModel_invariant_47 : decode Y_XModel_invariant.2.1 47 = .ok (.if_icmp .ne (9), 3) := by decide +kernel
theorem d_XModel_invariant_50 : decode Y_XModel_invariant.2.1 50 = .ok (.aload_n 0, 1) := by decide +kernel
theorem d_XModel_invariant_51 : decode Y_XModel_invariant.2.1 51 = .ok (.iconst 3, 1) := by decide +kernel
theorem d_XModel_invariant_52 : decode Y_XModel_invariant.2.1 52 = .ok (.invokevirtual 111, 3) := by decide +kernel
theorem d_XModel_invariant_55 : decode Y_XModel_invariant.2.1 55 = .ok (.ireturn, 1) := by decide +kernel
theorem d_XModel_invariant_56 : decode Y_XModel_invariant.2.1 56 = .ok (.aload_n 0, 1) := by decide +kernel
theorem d_XModel_invariant_57 : decode Y_XModel_invariant.2.1 57 = .ok (.getfield 48, 3) := by decide +kernel
theorem d_XModel_invariant_60 : decode Y_XModel_invariant.2.1 60 = .ok (.aload_n 0, 1) := by decide +kernel
theorem d_XModel_invariant_61 : decode Y_XModel_invariant.2.1 61 = .ok (.getfield 155, 3) := by decide +kernel
theorem d_XModel_invariant_64 : decode Y_XModel_invariant.2.1 64 = .ok (.iload_n 1, 1) := by decide +kernel
theorem d_XModel_invariant_65 : decode Y_XModel_invariant.2.1 65 = .ok (.iastore, 1) := by decide +kernel
theorem d_XModel_invariant_66 : decode Y_XModel_invariant.2.1 66 = .ok (.aload_n 0, 1) := by decide +kernel
theorem d_XModel_invariant_67 : decode Y_XModel_invariant.2.1 67 = .ok (.dup, 1) := by decide +kernel
theorem d_XModel_invariant_68 : decode Y_XModel_invariant.2.1 68 = .ok (.getfield 155, 3) := by decide +kernel
theorem d_XModel_invariant_71 : decode Y_XModel_invariant.2.1 71 = .ok (.iconst 1, 1) := by decide +kernel
theorem d_XModel_invariant_72 : decode Y_XModel_invariant.2.1 72 = .ok (.iadd, 1) := by decide +kernel
theorem d_XModel_invariant_73 : decode Y_XModel_invariant.2.1 73 = .ok (.putfield 155, 3) := by decide +kernel
theorem d_XModel_invariant_76 : decode Y_XModel_invariant.2.1 76 = .ok (.aload_n 0, 1) := by decide +kernel
theorem d_XModel_invariant_77 : decode Y_XModel_invariant.2.1 77 = .ok (.getfield 155, 3) := by decide +kernel
theorem d_XModel_invariant_80 : decode Y_XModel_invariant.2.1 80 = .ok (.iconst 1, 1) := by decide +kernel
theorem d_XModel_invariant_81 : decode Y_XModel_invariant.2.1 81 = .ok (.isub, 1) := by decide +kernel
theorem d_XModel_invariant_82 : decode Y_XModel_invariant.2.1 82 = .ok (.ireturn, 1) := by decide +kernel
def F_XModel_invariant_35 (n : Nat) (l0 : Nat) (M : PM) : qO :=
  kO 0 M l0 (
  cI (F_XModel_fail n l0 (2 : Int32) M) (fun v2 M1 =>
  some (.inl (some (.int v2)), M1)))
set_option maxHeartbeats 4000000 in
set_option maxRecDepth 100000 in
theorem E_XModel_invariant_35 {g : qG} {X : qX} {Z : qZ} (hn : 3 ≤ zn Z) (hl : 63 ≤ zl Z) {n : Nat} {l0 : Nat} {M : PM} (h : F_XModel_invariant_35 n l0 M = some (zr Z, zf Z)) : EW Y_XModel_invariant g X Z 35 [(0, .ref l0)] [] M := by
  unfold F_XModel_invariant_35 at h
  refine ew_aload_n 0 d_XModel_invariant_35 rfl rfl ?_
  refine ew_iconst (2) d_XModel_invariant_36 (by decide) ?_
  obtain ⟨kM1, h⟩ := kO_inv h
  obtain ⟨v2, M1, hM1, h⟩ := cI_inv h
  refine ew_callV 0 [.int (2 : Int32)] d_XModel_invariant_37 cv_XModel_111 (T_XModel_fail hM1) kM1 (Nat.le_trans (Nat.le_of_ble_eq_true rfl) hn) (Nat.le_trans (Nat.le_of_ble_eq_true rfl) hl) (Nat.le_of_ble_eq_true rfl) rfl rfl ?_
  obtain ⟨hz, hm⟩ := Prod.mk.inj (Option.some.inj h)
  exact ew_ireturn d_XModel_invariant_40 rfl hz.symm hm.symm
def F_XModel_invariant (n : Nat) (l0 : Nat) (l1 : Int32) (M : PM) : qO :=
  pF 0 M l0 0 (.int (0 : Int32)) (fun M1 =>
  kO 0 M1 l0 (
  cI (F_XModel_isNode n l0 l1 M1) (fun v3 M2 =>
  if v3 = (0 : Int32) then
    kO 0 M2 l0 (
    cI (F_XModel_fail n l0 (1 : Int32) M2) (fun v22 M21 =>
    some (.inl (some (.int v22)), M21)))
  else
    kO 0 M2 l0 (
    cI (F_XModel_isWord n l0 l1 M2) (fun v6 M5 =>
    if v6 = (0 : Int32) then
      kO 0 M5 l0 (
      cI (F_XModel_hasFetch n l0 l1 M5) (fun v9 M8 =>
      if v9 = (0 : Int32) then
        gI 0 M8 l0 10 (fun v11 =>
        if v11 = (8 : Int32) then
          kO 0 M8 l0 (
          cI (F_XModel_fail n l0 (3 : Int32) M8) (fun v20 M19 =>
          some (.inl (some (.int v20)), M19)))
        else
          gR 0 M8 l0 16 (fun v13 =>
          gI 0 M8 l0 10 (fun v14 =>
          wI M8 v13 v14 l1 (fun M15 =>
          gI 0 M15 l0 10 (fun v16 =>
          pF 0 M15 l0 10 (.int (v16 + (1 : Int32))) (fun M17 =>
          gI 0 M17 l0 10 (fun v18 =>
          some (.inl (some (.int (v18 - (1 : Int32)))), M17))))))))
      else
        F_XModel_invariant_35 n l0 M8))
    else
      F_XModel_invariant_35 n l0 M5)))))
set_option maxHeartbeats 4000000 in
set_option maxRecDepth 100000 in
theorem E_XModel_invariant {g : qG} {X : qX} {Z : qZ} (hn : 3 ≤ zn Z) (hl : 63 ≤ zl Z) {n : Nat} {l0 : Nat} {l1 : Int32} {M : PM} (h : F_XModel_invariant n l0 l1 M = some (zr Z, zf Z)) : EW Y_XModel_invariant g X Z 0 [(0, .ref l0), (1, .int l1)] [] M := by
  unfold F_XModel_invariant at h
  refine ew_aload_n 0 d_XModel_invariant_0 rfl rfl ?_
  refine ew_iconst (0) d_XModel_invariant_1 (by decide) ?_
  obtain ⟨M1, aM1, eM1, h⟩ := pF_inv h
  refine ew_pF 0 0 d_XModel_invariant_2 fl_XModel_87 aM1 eM1 (fun ad => ⟨rfl, rfl⟩) ?_
  refine ew_aload_n 0 d_XModel_invariant_5 rfl rfl ?_
  refine ew_iload_n 1 d_XModel_invariant_6 rfl rfl ?_
  obtain ⟨kM2, h⟩ := kO_inv h
  obtain ⟨v3, M2, hM2, h⟩ := cI_inv h
  refine ew_callV 0 [.int l1] d_XModel_invariant_7 cv_XModel_125 (T_XModel_isNode hM2) kM2 (Nat.le_trans (Nat.le_of_ble_eq_true rfl) hn) (Nat.le_trans (Nat.le_of_ble_eq_true rfl) hl) (Nat.le_of_ble_eq_true rfl) rfl rfl ?_
  refine ew_if_ne 19 d_XModel_invariant_10 (by decide) (fun c4 => ?_) (fun c4 => ?_)
  · rw [if_neg c4] at h
    refine ew_aload_n 0 d_XModel_invariant_19 rfl rfl ?_
    refine ew_iload_n 1 d_XModel_invariant_20 rfl rfl ?_
    obtain ⟨kM5, h⟩ := kO_inv h
    obtain ⟨v6, M5, hM5, h⟩ := cI_inv h
    refine ew_callV 0 [.int l1] d_XModel_invariant_21 cv_XModel_129 (T_XModel_isWord hM5) kM5 (Nat.le_trans (Nat.le_of_ble_eq_true rfl) hn) (Nat.le_trans (Nat.le_of_ble_eq_true rfl) hl) (Nat.le_of_ble_eq_true rfl) rfl rfl ?_
    refine ew_if_ne 35 d_XModel_invariant_24 (by decide) (fun c7 => ?_) (fun c7 => ?_)
    · rw [if_neg c7] at h
      exact ew_pick (L' := [(0, .ref l0)]) [0] rfl (E_XModel_invariant_35 hn hl h)
    · rw [if_pos c7] at h
      refine ew_aload_n 0 d_XModel_invariant_27 rfl rfl ?_
      refine ew_iload_n 1 d_XModel_invariant_28 rfl rfl ?_
      obtain ⟨kM8, h⟩ := kO_inv h
      obtain ⟨v9, M8, hM8, h⟩ := cI_inv h
      refine ew_callV 0 [.int l1] d_XModel_invariant_29 cv_XModel_152 (T_XModel_hasFetch hM8) kM8 (Nat.le_trans (Nat.le_of_ble_eq_true rfl) hn) (Nat.le_trans (Nat.le_of_ble_eq_true rfl) hl) (Nat.le_of_ble_eq_true rfl) rfl rfl ?_
      refine ew_if_eq 41 d_XModel_invariant_32 (by decide) (fun c10 => ?_) (fun c10 => ?_)
      · rw [if_pos c10] at h
        refine ew_aload_n 0 d_XModel_invariant_41 rfl rfl ?_
        obtain ⟨v11, av11, bv11, h⟩ := gI_inv h
        refine ew_gI 0 10 d_XModel_invariant_42 fl_XModel_155 av11 bv11 ?_
        refine ew_bipush (8) d_XModel_invariant_45 (by decide +kernel) ?_
        refine ew_icmp_ne 56 d_XModel_invariant_47 (by decide) (fun c12 => ?_) (fun c12 => ?_)
        · rw [if_neg c12] at h
          refine ew_aload_n 0 d_XModel_invariant_56 rfl rfl ?_
          obtain ⟨v13, av13, bv13, h⟩ := gR_inv h
          refine ew_gR 0 16 d_XModel_invariant_57 fl_XModel_48 av13 bv13 ?_
          refine ew_aload_n 0 d_XModel_invariant_60 rfl rfl ?_
          obtain ⟨v14, av14, bv14, h⟩ := gI_inv h
          refine ew_gI 0 10 d_XModel_invariant_61 fl_XModel_155 av14 bv14 ?_
          refine ew_iload_n 1 d_XModel_invariant_64 rfl rfl ?_
          obtain ⟨M15, aM15, bM15, cM15, eM15, h⟩ := wI_inv h
          refine ew_wI d_XModel_invariant_65 aM15 bM15 cM15 eM15 ?_
          refine ew_aload_n 0 d_XModel_invariant_66 rfl rfl ?_
          refine ew_dup d_XModel_invariant_67 rfl ?_
          obtain ⟨v16, av16, bv16, h⟩ := gI_inv h
          refine ew_gI 0 10 d_XModel_invariant_68 fl_XModel_155 av16 bv16 ?_
          refine ew_iconst (1) d_XModel_invariant_71 (by decide) ?_
          refine ew_iadd d_XModel_invariant_72 ?_
          obtain ⟨M17, aM17, eM17, h⟩ := pF_inv h
          refine ew_pF 0 10 d_XModel_invariant_73 fl_XModel_155 aM17 eM17 (fun ad => ⟨rfl, rfl⟩) ?_
          refine ew_aload_n 0 d_XModel_invariant_76 rfl rfl ?_
          obtain ⟨v18, av18, bv18, h⟩ := gI_inv h
          refine ew_gI 0 10 d_XModel_invariant_77 fl_XModel_155 av18 bv18 ?_
          refine ew_iconst (1) d_XModel_invariant_80 (by decide) ?_
          refine ew_isub d_XModel_invariant_81 ?_
          obtain ⟨hz, hm⟩ := Prod.mk.inj (Option.some.inj h)
          exact ew_ireturn d_XModel_invariant_82 rfl hz.symm hm.symm
        · rw [if_pos c12] at h
          refine ew_aload_n 0 d_XModel_invariant_50 rfl rfl ?_
          refine ew_iconst (3) d_XModel_invariant_51 (by decide) ?_
          obtain ⟨kM19, h⟩ := kO_inv h
          obtain ⟨v20, M19, hM19, h⟩ := cI_inv h
          refine ew_callV 0 [.int (3 : Int32)] d_XModel_invariant_52 cv_XModel_111 (T_XModel_fail hM19) kM19 (Nat.le_trans (Nat.le_of_ble_eq_true rfl) hn) (Nat.le_trans (Nat.le_of_ble_eq_true rfl) hl) (Nat.le_of_ble_eq_true rfl) rfl rfl ?_
          obtain ⟨hz, hm⟩ := Prod.mk.inj (Option.some.inj h)
          exact ew_ireturn d_XModel_invariant_55 rfl hz.symm hm.symm
      · rw [if_neg c10] at h
        exact ew_pick (L' := [(0, .ref l0)]) [0] rfl (E_XModel_invariant_35 hn hl h)
  · rw [if_pos c4] at h
    refine ew_aload_n 0 d_XModel_invariant_13 rfl rfl ?_
    refine ew_iconst (1) d_XModel_invariant_14 (by decide) ?_
    obtain ⟨kM21, h⟩ := kO_inv h
    obtain ⟨v22, M21, hM21, h⟩ := cI_inv h
    refine ew_callV 0 [.int (1 : Int32)] d_XModel_invariant_15 cv_XModel_111 (T_XModel_fail hM21) kM21 (Nat.le_trans (Nat.le_of_ble_eq_true rfl) hn) (Nat.le_trans (Nat.le_of_ble_eq_true rfl) hl) (Nat.le_of_ble_eq_true rfl) rfl rfl ?_
    obtain ⟨hz, hm⟩ := Prod.mk.inj (Option.some.inj h)
    exact ew_ireturn d_XModel_invariant_18 rfl hz.symm hm.symm
theorem T_XModel_invariant {n : Nat} {l0 : Nat} {l1 : Int32} {M Mf : PM} {res : qRs} (h : F_XModel_invariant n l0 l1 M = some (res, Mf)) : CT Y_XModel_invariant 3 63 [.ref l0, .int l1] M res Mf :=
  CT_of (by decide) (Nat.le_of_ble_eq_true rfl) (qHd_ne (by decide)) (fun g X ad0 => E_XModel_invariant (g := g) (X := X) (Z := (ad0, M, res, Mf, 3, 63)) (Nat.le_refl _) (Nat.le_refl _) h)
theorem d_XModel_beginState_0 : decode Y_XModel_beginState.2.1 0 = .ok (.iconst 0, 1) := by decide +kernel
theorem d_XModel_beginState_1 : decode Y_XModel_beginState.2.1 1 = .ok (.istore_n 1, 1) := by decide +kernel
theorem d_XModel_beginState_2 : decode Y_XModel_beginState.2.1 2 = .ok (.iload_n 1, 1) := by decide +kernel
theorem d_XModel_beginState_3 : decode Y_XModel_beginState.2.1 3 = .ok (.aload_n 0, 1) := by decide +kernel
theorem d_XModel_beginState_4 : decode Y_XModel_beginState.2.1 4 = .ok (.getfield 119, 3) := by decide +kernel
theorem d_XModel_beginState_7 : decode Y_XModel_beginState.2.1 7 = .ok (.if_icmp .ge (21), 3) := by decide +kernel
theorem d_XModel_beginState_10 : decode Y_XModel_beginState.2.1 10 = .ok (.aload_n 0, 1) := by decide +kernel
theorem d_XModel_beginState_11 : decode Y_XModel_beginState.2.1 11 = .ok (.getfield 54, 3) := by decide +kernel
theorem d_XModel_beginState_14 : decode Y_XModel_beginState.2.1 14 = .ok (.iload_n 1, 1) := by decide +kernel
theorem d_XModel_beginState_15 : decode Y_XModel_beginState.2.1 15 = .ok (.aload_n 0, 1) := by decide +kernel
theorem d_XModel_beginState_16 : decode Y_XModel_beginState.2.1 16 = .ok (.getfield 32, 3) := by decide +kernel
theorem d_XModel_beginState_19 : decode Y_XModel_beginState.2.1 19 = .ok (.iload_n 1, 1) := by decide +kernel
theorem d_XModel_beginState_20 : decode Y_XModel_beginState.2.1 20 = .ok (.iaload, 1) := by decide +kernel
theorem d_XModel_beginState_21 : decode Y_XModel_beginState.2.1 21 = .ok (.iastore, 1) := by decide +kernel
theorem d_XModel_beginState_22 : decode Y_XModel_beginState.2.1 22 = .ok (.iinc 1 (1), 3) := by decide +kernel
theorem d_XModel_beginState_25 : decode Y_XModel_beginState.2.1 25 = .ok (.goto (-23), 3) := by decide +kernel
theorem d_XModel_beginState_28 : decode Y_XModel_beginState.2.1 28 = .ok (.return_, 1) := by decide +kernel
def F_XModel_beginState_2 (n : Nat) : Nat → Nat → Int32 → PM → qO
  | 0, _, _, _ => none
  | f + 1, l0, l1, M =>
    gI 0 M l0 9 (fun v1 =>
    if v1 ≤ l1 then
      some (.inl none, M)
    else
      gR 0 M l0 18 (fun v3 =>
      gR 0 M l0 11 (fun v4 =>
      lI M v4 l1 (fun v5 =>
      wI M v3 l1 v5 (fun M6 =>
      bI (l1 + (1 : Int32)) (fun v7 =>
      (F_XModel_beginState_2 n f) l0 v7 M6))))))
set_option maxHeartbeats 4000000 in
set_option maxRecDepth 100000 in
theorem E_XModel_beginState_2 {g : qG} {X : qX} {Z : qZ} (hn : 0 ≤ zn Z) (hl : 0 ≤ zl Z) {n : Nat} : ∀ (f : Nat) (l0 : Nat) (l1 : Int32) (M : PM), F_XModel_beginState_2 n f l0 l1 M = some (zr Z, zf Z) → EW Y_XModel_beginState g X Z 2 [(0, .ref l0), (1, .int l1)] [] M := by
  intro f
  induction f with
  | zero => intro l0 l1 M h; rw [F_XModel_beginState_2] at h; cases h
  | succ f ih =>
    intro l0 l1 M h
    rw [F_XModel_beginState_2] at h
    refine ew_iload_n 1 d_XModel_beginState_2 rfl rfl ?_
    refine ew_aload_n 0 d_XModel_beginState_3 rfl rfl ?_
    obtain ⟨v1, av1, bv1, h⟩ := gI_inv h
    refine ew_gI 0 9 d_XModel_beginState_4 fl_XModel_119 av1 bv1 ?_
    refine ew_icmp_ge 28 d_XModel_beginState_7 (by decide) (fun c2 => ?_) (fun c2 => ?_)
    · rw [if_pos c2] at h
      obtain ⟨hz, hm⟩ := Prod.mk.inj (Option.some.inj h)
      exact ew_return d_XModel_beginState_28 rfl hz.symm hm.symm
    · rw [if_neg c2] at h
      refine ew_aload_n 0 d_XModel_beginState_10 rfl rfl ?_
      obtain ⟨v3, av3, bv3, h⟩ := gR_inv h
      refine ew_gR 0 18 d_XModel_beginState_11 fl_XModel_54 av3 bv3 ?_
      refine ew_iload_n 1 d_XModel_beginState_14 rfl rfl ?_
      refine ew_aload_n 0 d_XModel_beginState_15 rfl rfl ?_
      obtain ⟨v4, av4, bv4, h⟩ := gR_inv h
      refine ew_gR 0 11 d_XModel_beginState_16 fl_XModel_32 av4 bv4 ?_
      refine ew_iload_n 1 d_XModel_beginState_19 rfl rfl ?_
      obtain ⟨v5, av5, bv5, cv5, ev5, h⟩ := lI_inv h
      refine ew_lI d_XModel_beginState_20 av5 bv5 cv5 ev5 ?_
      obtain ⟨M6, aM6, bM6, cM6, eM6, h⟩ := wI_inv h
      refine ew_wI d_XModel_beginState_21 aM6 bM6 cM6 eM6 ?_
      obtain ⟨v7, ev7, h⟩ := bI_inv h
      refine ew_iinc (L' := [(0, .ref l0), (1, .int v7)]) v7 [1, 0] d_XModel_beginState_22 rfl (by rw [ev7]; rfl) (by decide) rfl ?_
      refine ew_goto 2 d_XModel_beginState_25 (by decide) ?_
      exact ih l0 v7 M6 h
def F_XModel_beginState (n : Nat) (l0 : Nat) (M : PM) : qO :=
  F_XModel_beginState_2 n n l0 (0 : Int32) M
set_option maxHeartbeats 4000000 in
set_option maxRecDepth 100000 in
theorem E_XModel_beginState {g : qG} {X : qX} {Z : qZ} (hn : 0 ≤ zn Z) (hl : 0 ≤ zl Z) {n : Nat} {l0 : Nat} {M : PM} (h : F_XModel_beginState n l0 M = some (zr Z, zf Z)) : EW Y_XModel_beginState g X Z 0 [(0, .ref l0)] [] M := by
  unfold F_XModel_beginState at h
  refine ew_iconst (0) d_XModel_beginState_0 (by decide) ?_
  refine ew_istore_n (L' := [(0, .ref l0), (1, .int (0 : Int32))]) 1 [1, 0] d_XModel_beginState_1 rfl (by decide) rfl ?_
  exact E_XModel_beginState_2 hn hl n l0 (0 : Int32) M h
theorem T_XModel_beginState {n : Nat} {l0 : Nat} {M Mf : PM} {res : qRs} (h : F_XModel_beginState n l0 M = some (res, Mf)) : CT Y_XModel_beginState 0 0 [.ref l0] M res Mf :=
  CT_of (by decide) (Nat.le_of_ble_eq_true rfl) (qHd_ne (by decide)) (fun g X ad0 => E_XModel_beginState (g := g) (X := X) (Z := (ad0, M, res, Mf, 0, 0)) (Nat.le_refl _) (Nat.le_refl _) h)
theorem d_XModel_get_0 : decode Y_XModel_get.2.1 0 = .ok (.aload_n 0, 1) := by decide +kernel
theorem d_XModel_get_1 : decode Y_XModel_get.2.1 1 = .ok (.iload_n 1, 1) := by decide +kernel
theorem d_XModel_get_2 : decode Y_XModel_get.2.1 2 = .ok (.iload_n 2, 1) := by decide +kernel
theorem d_XModel_get_3 : decode Y_XModel_get.2.1 3 = .ok (.iload_n 3, 1) := by decide +kernel
theorem d_XModel_get_4 : decode Y_XModel_get.2.1 4 = .ok (.iload 4, 2) := by decide +kernel
theorem d_XModel_get_6 : decode Y_XModel_get.2.1 6 = .ok (.invokevirtual 99, 3) := by decide +kernel
theorem d_XModel_get_9 : decode Y_XModel_get.2.1 9 = .ok (.istore 5, 2) := by decide +kernel
theorem d_XModel_get_11 : decode Y_XModel_get.2.1 11 = .ok (.iload 5, 2) := by decide +kernel
theorem d_XModel_get_13 : decode Y_XModel_get.2.1 13 = .ok (.ifCond .lt (8), 3) := by decide +kernel
theorem d_XModel_get_16 : decode Y_XModel_get.2.1 16 = .ok (.iload 5, 2) := by decide +kernel
theorem d_XModel_get_18 : decode Y_XModel_get.2.1 18 = .ok (.goto (12), 3) := by decide +kernel
theorem d_XModel_get_21 : decode Y_XModel_get.2.1 21 = .ok (.aload_n 0, 1) := by decide +kernel
theorem d_XModel_get_22 : decode Y_XModel_get.2.1 22 = .ok (.iload_n 1, 1) := by decide +kernel
theorem d_XModel_get_23 : decode Y_XModel_get.2.1 23 = .ok (.iload_n 2, 1) := by decide +kernel
theorem d_XModel_get_24 : decode Y_XModel_get.2.1 24 = .ok (.iload_n 3, 1) := by decide +kernel
theorem d_XModel_get_25 : decode Y_XModel_get.2.1 25 = .ok (.iload 4, 2) := by decide +kernel
theorem d_XModel_get_27 : decode Y_XModel_get.2.1 27 = .ok (.invokevirtual 102, 3) := by decide +kernel
theorem d_XModel_get_30 : decode Y_XModel_get.2.1 30 = .ok (.ireturn, 1) := by decide +kernel
def F_XModel_get_30 (n : Nat) (s0 : Int32) (M : PM) : qO :=
  some (.inl (some (.int s0)), M)
set_option maxHeartbeats 4000000 in
set_option maxRecDepth 100000 in
theorem E_XModel_get_30 {g : qG} {X : qX} {Z : qZ} (hn : 3 ≤ zn Z) (hl : 69 ≤ zl Z) {n : Nat} {s0 : Int32} {M : PM} (h : F_XModel_get_30 n s0 M = some (zr Z, zf Z)) : EW Y_XModel_get g X Z 30 [] [.int s0] M := by
  unfold F_XModel_get_30 at h
  obtain ⟨hz, hm⟩ := Prod.mk.inj (Option.some.inj h)
  exact ew_ireturn d_XModel_get_30 rfl hz.symm hm.symm
def F_XModel_get (n : Nat) (l0 : Nat) (l1 : Int32) (l2 : Int32) (l3 : Int32) (l4 : Int32) (M : PM) : qO :=
  kO 0 M l0 (
  cI (F_XModel_find n l0 l1 l2 l3 l4 M) (fun v2 M1 =>
  if v2 < (0 : Int32) then
    kO 0 M1 l0 (
    cI (F_XModel_add n l0 l1 l2 l3 l4 M1) (fun v5 M4 =>
    F_XModel_get_30 n v5 M4))
  else
    F_XModel_get_30 n v2 M1))
set_option maxHeartbeats 4000000 in
set_option maxRecDepth 100000 in
theorem E_XModel_get {g : qG} {X : qX} {Z : qZ} (hn : 3 ≤ zn Z) (hl : 69 ≤ zl Z) {n : Nat} {l0 : Nat} {l1 : Int32} {l2 : Int32} {l3 : Int32} {l4 : Int32} {M : PM} (h : F_XModel_get n l0 l1 l2 l3 l4 M = some (zr Z, zf Z)) : EW Y_XModel_get g X Z 0 [(0, .ref l0), (1, .int l1), (2, .int l2), (3, .int l3), (4, .int l4)] [] M := by
  unfold F_XModel_get at h
  refine ew_aload_n 0 d_XModel_get_0 rfl rfl ?_
  refine ew_iload_n 1 d_XModel_get_1 rfl rfl ?_
  refine ew_iload_n 2 d_XModel_get_2 rfl rfl ?_
  refine ew_iload_n 3 d_XModel_get_3 rfl rfl ?_
  refine ew_iload d_XModel_get_4 rfl ?_
  obtain ⟨kM1, h⟩ := kO_inv h
  obtain ⟨v2, M1, hM1, h⟩ := cI_inv h
  refine ew_callV 0 [.int l1, .int l2, .int l3, .int l4] d_XModel_get_6 cv_XModel_99 (T_XModel_find hM1) kM1 (Nat.le_trans (Nat.le_of_ble_eq_true rfl) hn) (Nat.le_trans (Nat.le_of_ble_eq_true rfl) hl) (Nat.le_of_ble_eq_true rfl) rfl rfl ?_
  refine ew_istore (L' := [(0, .ref l0), (1, .int l1), (2, .int l2), (3, .int l3), (4, .int l4), (5, .int v2)]) [1, 2, 3, 4, 5, 0] d_XModel_get_9 (by decide) rfl ?_
  refine ew_iload d_XModel_get_11 rfl ?_
  refine ew_if_lt 21 d_XModel_get_13 (by decide) (fun c3 => ?_) (fun c3 => ?_)
  · rw [if_pos c3] at h
    refine ew_aload_n 0 d_XModel_get_21 rfl rfl ?_
    refine ew_iload_n 1 d_XModel_get_22 rfl rfl ?_
    refine ew_iload_n 2 d_XModel_get_23 rfl rfl ?_
    refine ew_iload_n 3 d_XModel_get_24 rfl rfl ?_
    refine ew_iload d_XModel_get_25 rfl ?_
    obtain ⟨kM4, h⟩ := kO_inv h
    obtain ⟨v5, M4, hM4, h⟩ := cI_inv h
    refine ew_callV 0 [.int l1, .int l2, .int l3, .int l4] d_XModel_get_27 cv_XModel_102 (T_XModel_add hM4) kM4 (Nat.le_trans (Nat.le_of_ble_eq_true rfl) hn) (Nat.le_trans (Nat.le_of_ble_eq_true rfl) hl) (Nat.le_of_ble_eq_true rfl) rfl rfl ?_
    exact ew_pick (L' := []) [] rfl (E_XModel_get_30 hn hl h)
  · rw [if_neg c3] at h
    refine ew_iload d_XModel_get_16 rfl ?_
    refine ew_goto 30 d_XModel_get_18 (by decide) ?_
    exact ew_pick (L' := []) [] rfl (E_XModel_get_30 hn hl h)
theorem T_XModel_get {n : Nat} {l0 : Nat} {l1 : Int32} {l2 : Int32} {l3 : Int32} {l4 : Int32} {M Mf : PM} {res : qRs} (h : F_XModel_get n l0 l1 l2 l3 l4 M = some (res, Mf)) : CT Y_XModel_get 3 69 [.ref l0, .int l1, .int l2, .int l3, .int l4] M res Mf :=
  CT_of (by decide) (Nat.le_of_ble_eq_true rfl) (qHd_ne (by decide)) (fun g X ad0 => E_XModel_get (g := g) (X := X) (Z := (ad0, M, res, Mf, 3, 69)) (Nat.le_refl _) (Nat.le_refl _) h)
theorem d_XModel_make_0 : decode Y_XModel_make.2.1 0 = .ok (.aload_n 0, 1) := by decide +kernel
theorem d_XModel_make_1 : decode Y_XModel_make.2.1 1 = .ok (.iload_n 1, 1) := by decide +kernel
theorem d_XModel_make_2 : decode Y_XModel_make.2.1 2 = .ok (.iload_n 2, 1) := by decide +kernel
theorem d_XModel_make_3 : decode Y_XModel_make.2.1 3 = .ok (.iload_n 3, 1) := by decide +kernel
theorem d_XModel_make_4 : decode Y_XModel_make.2.1 4 = .ok (.iload 4, 2) := by decide +kernel
theorem d_XModel_make_6 : decode Y_XModel_make.2.1 6 = .ok (.invokevirtual 105, 3) := by decide +kernel
theorem d_XModel_make_9 : decode Y_XModel_make.2.1 9 = .ok (.istore 5, 2) := by decide +kernel
theorem d_XModel_make_11 : decode Y_XModel_make.2.1 11 = .ok (.iload 5, 2) := by decide +kernel
theorem d_XModel_make_13 : decode Y_XModel_make.2.1 13 = .ok (.ifCond .lt (6), 3) := by decide +kernel
theorem d_XModel_make_16 : decode Y_XModel_make.2.1 16 = .ok (.iload 5, 2) := by decide +kernel
theorem d_XModel_make_18 : decode Y_XModel_make.2.1 18 = .ok (.ireturn, 1) := by decide +kernel
theorem d_XModel_make_19 : decode Y_XModel_make.2.1 19 = .ok (.iload_n 1, 1) := by decide +kernel
theorem d_XModel_make_20 : decode Y_XModel_make.2.1 20 = .ok (.bipush (6), 2) := by decide +kernel
theorem d_XModel_make_22 : decode Y_XModel_make.2.1 22 = .ok (.if_icmp .eq (9), 3) := by decide +kernel
theorem d_XModel_make_25 : decode Y_XModel_make.2.1 25 = .ok (.iload_n 1, 1) := by decide +kernel
theorem d_XModel_make_26 : decode Y_XModel_make.2.1 26 = .ok (.bipush (8), 2) := by decide +kernel
theorem d_XModel_make_28 : decode Y_XModel_make.2.1 28 = .ok (.if_icmp .ne (12), 3) := by decide +kernel
theorem d_XModel_make_31 : decode Y_XModel_make.2.1 31 = .ok (.iload_n 3, 1) := by decide +kernel
theorem d_XModel_make_32 : decode Y_XModel_make.2.1 32 = .ok (.iload_n 2, 1) := by decide +kernel
theorem d_XModel_make_33 : decode Y_XModel_make.2.1 33 = .ok (.if_icmp .ge (7), 3) := by decide +kernel
theorem d_XModel_make_36 : decode Y_XModel_make.2.1 36 = .ok (.iconst 1, 1) := by decide +kernel
theorem d_XModel_make_37 : decode Y_XModel_make.2.1 37 = .ok (.goto (4), 3) := by decide +kernel
theorem d_XModel_make_40 : decode Y_XModel_make.2.1 40 = .ok (.iconst 0, 1) := by decide +kernel
theorem d_XModel_make_41 : decode Y_XModel_make.2.1 41 = .ok (.istore 6, 2) := by decide +kernel
theorem d_XModel_make_43 : decode Y_XModel_make.2.1 43 = .ok (.aload_n 0, 1) := by decide +kernel
theorem d_XModel_make_44 : decode Y_XModel_make.2.1 44 = .ok (.iload_n 1, 1) := by decide +kernel
theorem d_XModel_make_45 : decode Y_XModel_make.2.1 45 = .ok (.iload 6, 2) := by decide +kernel
theorem d_XModel_make_47 : decode Y_XModel_make.2.1 47 = .ok (.ifCond .eq (7), 3) := by decide +kernel
theorem d_XModel_make_50 : decode Y_XModel_make.2.1 50 = .ok (.iload_n 3, 1) := by decide +kernel
theorem d_XModel_make_51 : decode Y_XModel_make.2.1 51 = .ok (.goto (4), 3) := by decide +kernel
theorem d_XModel_make_54 : decode Y_XModel_make.2.1 54 = .ok (.iload_n 2, 1) := by decide +kernel
theorem d_XModel_make_55 : decode Y_XModel_make.2.1 55 = .ok (.iload 6, 2) := by decide +kernel
theorem d_XModel_make_57 : decode Y_XModel_make.2.1 57 = .ok (.ifCond .eq (7), 3) := by decide +kernel
theorem d_XModel_make_60 : decode Y_XModel_make.2.1 60 = .ok (.iload_n 2, 1) := by decide +kernel
theorem d_XModel_make_61 : decode Y_XModel_make.2.1 61 = .ok (.goto (4), 3) := by decide +kernel
theorem d_XModel_make_64 : decode Y_XModel_make.2.1 64 = .ok (.iload_n 3, 1) := by decide +kernel
theorem d_XModel_make_65 : decode Y_XModel_make.2.1 65 = .ok (.iload 4, 2) := by decide +kernel
theorem d_XModel_make_67 : decode Y_XModel_make.2.1 67 = .ok (.invokevirtual 108, 3) := by decide +kernel
theorem d_XModel_make_70 : decode Y_XModel_make.2.1 70 = .ok (.ireturn, 1) := by decide +kernel
def F_XModel_make_65 (n : Nat) (l4 : Int32) (s0 : Nat) (s1 : Int32) (s2 : Int32) (s3 : Int32) (M : PM) : qO :=
  kO 0 M s0 (
  cI (F_XModel_get n s0 s1 s2 s3 l4 M) (fun v2 M1 =>
  some (.inl (some (.int v2)), M1)))
set_option maxHeartbeats 4000000 in
set_option maxRecDepth 100000 in
theorem E_XModel_make_65 {g : qG} {X : qX} {Z : qZ} (hn : 4 ≤ zn Z) (hl : 94 ≤ zl Z) {n : Nat} {l4 : Int32} {s0 : Nat} {s1 : Int32} {s2 : Int32} {s3 : Int32} {M : PM} (h : F_XModel_make_65 n l4 s0 s1 s2 s3 M = some (zr Z, zf Z)) : EW Y_XModel_make g X Z 65 [(4, .int l4)] [.int s3, .int s2, .int s1, .ref s0] M := by
  unfold F_XModel_make_65 at h
  refine ew_iload d_XModel_make_65 rfl ?_
  obtain ⟨kM1, h⟩ := kO_inv h
  obtain ⟨v2, M1, hM1, h⟩ := cI_inv h
  refine ew_callV 0 [.int s1, .int s2, .int s3, .int l4] d_XModel_make_67 cv_XModel_108 (T_XModel_get hM1) kM1 (Nat.le_trans (Nat.le_of_ble_eq_true rfl) hn) (Nat.le_trans (Nat.le_of_ble_eq_true rfl) hl) (Nat.le_of_ble_eq_true rfl) rfl rfl ?_
  obtain ⟨hz, hm⟩ := Prod.mk.inj (Option.some.inj h)
  exact ew_ireturn d_XModel_make_70 rfl hz.symm hm.symm
def F_XModel_make_55 (n : Nat) (l2 : Int32) (l3 : Int32) (l4 : Int32) (l6 : Int32) (s0 : Nat) (s1 : Int32) (s2 : Int32) (M : PM) : qO :=
  if l6 = (0 : Int32) then
    F_XModel_make_65 n l4 s0 s1 s2 l3 M
  else
    F_XModel_make_65 n l4 s0 s1 s2 l2 M
set_option maxHeartbeats 4000000 in
set_option maxRecDepth 100000 in
theorem E_XModel_make_55 {g : qG} {X : qX} {Z : qZ} (hn : 4 ≤ zn Z) (hl : 94 ≤ zl Z) {n : Nat} {l2 : Int32} {l3 : Int32} {l4 : Int32} {l6 : Int32} {s0 : Nat} {s1 : Int32} {s2 : Int32} {M : PM} (h : F_XModel_make_55 n l2 l3 l4 l6 s0 s1 s2 M = some (zr Z, zf Z)) : EW Y_XModel_make g X Z 55 [(2, .int l2), (3, .int l3), (4, .int l4), (6, .int l6)] [.int s2, .int s1, .ref s0] M := by
  unfold F_XModel_make_55 at h
  refine ew_iload d_XModel_make_55 rfl ?_
  refine ew_if_eq 64 d_XModel_make_57 (by decide) (fun c1 => ?_) (fun c1 => ?_)
  · rw [if_pos c1] at h
    refine ew_iload_n 3 d_XModel_make_64 rfl rfl ?_
    exact ew_pick (L' := [(4, .int l4)]) [2] rfl (E_XModel_make_65 hn hl h)
  · rw [if_neg c1] at h
    refine ew_iload_n 2 d_XModel_make_60 rfl rfl ?_
    refine ew_goto 65 d_XModel_make_61 (by decide) ?_
    exact ew_pick (L' := [(4, .int l4)]) [2] rfl (E_XModel_make_65 hn hl h)
def F_XModel_make_41 (n : Nat) (l0 : Nat) (l1 : Int32) (l2 : Int32) (l3 : Int32) (l4 : Int32) (s0 : Int32) (M : PM) : qO :=
  if s0 = (0 : Int32) then
    F_XModel_make_55 n l2 l3 l4 s0 l0 l1 l2 M
  else
    F_XModel_make_55 n l2 l3 l4 s0 l0 l1 l3 M
set_option maxHeartbeats 4000000 in
set_option maxRecDepth 100000 in
theorem E_XModel_make_41 {g : qG} {X : qX} {Z : qZ} (hn : 4 ≤ zn Z) (hl : 94 ≤ zl Z) {n : Nat} {l0 : Nat} {l1 : Int32} {l2 : Int32} {l3 : Int32} {l4 : Int32} {s0 : Int32} {M : PM} (h : F_XModel_make_41 n l0 l1 l2 l3 l4 s0 M = some (zr Z, zf Z)) : EW Y_XModel_make g X Z 41 [(0, .ref l0), (1, .int l1), (2, .int l2), (3, .int l3), (4, .int l4)] [.int s0] M := by
  unfold F_XModel_make_41 at h
  refine ew_istore (L' := [(0, .ref l0), (1, .int l1), (2, .int l2), (3, .int l3), (4, .int l4), (6, .int s0)]) [1, 2, 3, 4, 5, 0] d_XModel_make_41 (by decide) rfl ?_
  refine ew_aload_n 0 d_XModel_make_43 rfl rfl ?_
  refine ew_iload_n 1 d_XModel_make_44 rfl rfl ?_
  refine ew_iload d_XModel_make_45 rfl ?_
  refine ew_if_eq 54 d_XModel_make_47 (by decide) (fun c1 => ?_) (fun c1 => ?_)
  · rw [if_pos c1] at h
    refine ew_iload_n 2 d_XModel_make_54 rfl rfl ?_
    exact ew_pick (L' := [(2, .int l2), (3, .int l3), (4, .int l4), (6, .int s0)]) [2, 3, 4, 5] rfl (E_XModel_make_55 hn hl h)
  · rw [if_neg c1] at h
    refine ew_iload_n 3 d_XModel_make_50 rfl rfl ?_
    refine ew_goto 55 d_XModel_make_51 (by decide) ?_
    exact ew_pick (L' := [(2, .int l2), (3, .int l3), (4, .int l4), (6, .int s0)]) [2, 3, 4, 5] rfl (E_XModel_make_55 hn hl h)
def F_XModel_make_40 (n : Nat) (l0 : Nat) (l1 : Int32) (l2 : Int32) (l3 : Int32) (l4 : Int32) (M : PM) : qO :=
  F_XModel_make_41 n l0 l1 l2 l3 l4 (0 : Int32) M
set_option maxHeartbeats 4000000 in
set_option maxRecDepth 100000 in
theorem E_XModel_make_40 {g : qG} {X : qX} {Z : qZ} (hn : 4 ≤ zn Z) (hl : 94 ≤ zl Z) {n : Nat} {l0 : Nat} {l1 : Int32} {l2 : Int32} {l3 : Int32} {l4 : Int32} {M : PM} (h : F_XModel_make_40 n l0 l1 l2 l3 l4 M = some (zr Z, zf Z)) : EW Y_XModel_make g X Z 40 [(0, .ref l0), (1, .int l1), (2, .int l2), (3, .int l3), (4, .int l4)] [] M := by
  unfold F_XModel_make_40 at h
  refine ew_iconst (0) d_XModel_make_40 (by decide) ?_
  exact E_XModel_make_41 hn hl h
def F_XModel_make_31 (n : Nat) (l0 : Nat) (l1 : Int32) (l2 : Int32) (l3 : Int32) (l4 : Int32) (M : PM) : qO :=
  if l2 ≤ l3 then
    F_XModel_make_40 n l0 l1 l2 l3 l4 M
  else
    F_XModel_make_41 n l0 l1 l2 l3 l4 (1 : Int32) M
set_option maxHeartbeats 4000000 in
set_option maxRecDepth 100000 in
theorem E_XModel_make_31 {g : qG} {X : qX} {Z : qZ} (hn : 4 ≤ zn Z) (hl : 94 ≤ zl Z) {n : Nat} {l0 : Nat} {l1 : Int32} {l2 : Int32} {l3 : Int32} {l4 : Int32} {M : PM} (h : F_XModel_make_31 n l0 l1 l2 l3 l4 M = some (zr Z, zf Z)) : EW Y_XModel_make g X Z 31 [(0, .ref l0), (1, .int l1), (2, .int l2), (3, .int l3), (4, .int l4)] [] M := by
  unfold F_XModel_make_31 at h
  refine ew_iload_n 3 d_XModel_make_31 rfl rfl ?_
  refine ew_iload_n 2 d_XModel_make_32 rfl rfl ?_
  refine ew_icmp_ge 40 d_XModel_make_33 (by decide) (fun c1 => ?_) (fun c1 => ?_)
  · rw [if_pos c1] at h
    exact E_XModel_make_40 hn hl h
  · rw [if_neg c1] at h
    refine ew_iconst (1) d_XModel_make_36 (by decide) ?_
    refine ew_goto 41 d_XModel_make_37 (by decide) ?_
    exact E_XModel_make_41 hn hl h
def F_XModel_make (n : Nat) (l0 : Nat) (l1 : Int32) (l2 : Int32) (l3 : Int32) (l4 : Int32) (M : PM) : qO :=
  kO 0 M l0 (
  cI (F_XModel_plainest n l0 l1 l2 l3 l4 M) (fun v2 M1 =>
  if v2 < (0 : Int32) then
    if l1 = (6 : Int32) then
      F_XModel_make_31 n l0 l1 l2 l3 l4 M1
    else
      if l1 = (8 : Int32) then
        F_XModel_make_31 n l0 l1 l2 l3 l4 M1
      else
        F_XModel_make_40 n l0 l1 l2 l3 l4 M1
  else
    some (.inl (some (.int v2)), M1)))
set_option maxHeartbeats 4000000 in
set_option maxRecDepth 100000 in
theorem E_XModel_make {g : qG} {X : qX} {Z : qZ} (hn : 4 ≤ zn Z) (hl : 94 ≤ zl Z) {n : Nat} {l0 : Nat} {l1 : Int32} {l2 : Int32} {l3 : Int32} {l4 : Int32} {M : PM} (h : F_XModel_make n l0 l1 l2 l3 l4 M = some (zr Z, zf Z)) : EW Y_XModel_make g X Z 0 [(0, .ref l0), (1, .int l1), (2, .int l2), (3, .int l3), (4, .int l4)] [] M := by
  unfold F_XModel_make at h
  refine ew_aload_n 0 d_XModel_make_0 rfl rfl ?_
  refine ew_iload_n 1 d_XModel_make_1 rfl rfl ?_
  refine ew_iload_n 2 d_XModel_make_2 rfl rfl ?_
  refine ew_iload_n 3 d_XModel_make_3 rfl rfl ?_
  refine ew_iload d_XModel_make_4 rfl ?_
  obtain ⟨kM1, h⟩ := kO_inv h
  obtain ⟨v2, M1, hM1, h⟩ := cI_inv h
  refine ew_callV 0 [.int l1, .int l2, .int l3, .int l4] d_XModel_make_6 cv_XModel_105 (T_XModel_plainest hM1) kM1 (Nat.le_trans (Nat.le_of_ble_eq_true rfl) hn) (Nat.le_trans (Nat.le_of_ble_eq_true rfl) hl) (Nat.le_of_ble_eq_true rfl) rfl rfl ?_
  refine ew_istore (L' := [(0, .ref l0), (1, .int l1), (2, .int l2), (3, .int l3), (4, .int l4), (5, .int v2)]) [1, 2, 3, 4, 5, 0] d_XModel_make_9 (by decide) rfl ?_
  refine ew_iload d_XModel_make_11 rfl ?_
  refine ew_if_lt 19 d_XModel_make_13 (by decide) (fun c3 => ?_) (fun c3 => ?_)
  · rw [if_pos c3] at h
    refine ew_iload_n 1 d_XModel_make_19 rfl rfl ?_
    refine ew_bipush (6) d_XModel_make_20 (by decide +kernel) ?_
    refine ew_icmp_eq 31 d_XModel_make_22 (by decide) (fun c4 => ?_) (fun c4 => ?_)
    · rw [if_pos c4] at h
      exact ew_pick (L' := [(0, .ref l0), (1, .int l1), (2, .int l2), (3, .int l3), (4, .int l4)]) [0, 1, 2, 3, 4] rfl (E_XModel_make_31 hn hl h)
    · rw [if_neg c4] at h
      refine ew_iload_n 1 d_XModel_make_25 rfl rfl ?_
      refine ew_bipush (8) d_XModel_make_26 (by decide +kernel) ?_
      refine ew_icmp_ne 40 d_XModel_make_28 (by decide) (fun c5 => ?_) (fun c5 => ?_)
      · rw [if_neg c5] at h
        exact ew_pick (L' := [(0, .ref l0), (1, .int l1), (2, .int l2), (3, .int l3), (4, .int l4)]) [0, 1, 2, 3, 4] rfl (E_XModel_make_40 hn hl h)
      · rw [if_pos c5] at h
        exact ew_pick (L' := [(0, .ref l0), (1, .int l1), (2, .int l2), (3, .int l3), (4, .int l4)]) [0, 1, 2, 3, 4] rfl (E_XModel_make_31 hn hl h)
  · rw [if_neg c3] at h
    refine ew_iload d_XModel_make_16 rfl ?_
    obtain ⟨hz, hm⟩ := Prod.mk.inj (Option.some.inj h)
    exact ew_ireturn d_XModel_make_18 rfl hz.symm hm.symm
theorem T_XModel_make {n : Nat} {l0 : Nat} {l1 : Int32} {l2 : Int32} {l3 : Int32} {l4 : Int32} {M Mf : PM} {res : qRs} (h : F_XModel_make n l0 l1 l2 l3 l4 M = some (res, Mf)) : CT Y_XModel_make 4 94 [.ref l0, .int l1, .int l2, .int l3, .int l4] M res Mf :=
  CT_of (by decide) (Nat.le_of_ble_eq_true rfl) (qHd_ne (by decide)) (fun g X ad0 => E_XModel_make (g := g) (X := X) (Z := (ad0, M, res, Mf, 4, 94)) (Nat.le_refl _) (Nat.le_refl _) h)
theorem d_XModel_putIn_0 : decode Y_XModel_putIn.2.1 0 = .ok (.iconst 0, 1) := by decide +kernel
theorem d_XModel_putIn_1 : decode Y_XModel_putIn.2.1 1 = .ok (.istore_n 2, 1) := by decide +kernel
theorem d_XModel_putIn_2 : decode Y_XModel_putIn.2.1 2 = .ok (.iload_n 2, 1) := by decide +kernel
theorem d_XModel_putIn_3 : decode Y_XModel_putIn.2.1 3 = .ok (.aload_n 0, 1) := by decide +kernel
theorem d_XModel_putIn_4 : decode Y_XModel_putIn.2.1 4 = .ok (.getfield 7, 3) := by decide +kernel
theorem d_XModel_putIn_7 : decode Y_XModel_putIn.2.1 7 = .ok (.if_icmp .ge (201), 3) := by decide +kernel
theorem d_XModel_putIn_10 : decode Y_XModel_putIn.2.1 10 = .ok (.aload_n 0, 1) := by decide +kernel
theorem d_XModel_putIn_11 : decode Y_XModel_putIn.2.1 11 = .ok (.getfield 13, 3) := by decide +kernel
theorem d_XModel_putIn_14 : decode Y_XModel_putIn.2.1 14 = .ok (.iload_n 2, 1) := by decide +kernel
theorem d_XModel_putIn_15 : decode Y_XModel_putIn.2.1 15 = .ok (.iaload, 1) := by decide +kernel
theorem d_XModel_putIn_16 : decode Y_XModel_putIn.2.1 16 = .ok (.istore_n 3, 1) := by decide +kernel
theorem d_XModel_putIn_17 : decode Y_XModel_putIn.2.1 17 = .ok (.iload_n 3, 1) := by decide +kernel
theorem d_XModel_putIn_18 : decode Y_XModel_putIn.2.1 18 = .ok (.iconst 2, 1) := by decide +kernel
theorem d_XModel_putIn_19 : decode Y_XModel_putIn.2.1 19 = .ok (.if_icmp .ge (13), 3) := by decide +kernel
theorem d_XModel_putIn_22 : decode Y_XModel_putIn.2.1 22 = .ok (.aload_n 0, 1) := by decide +kernel
theorem d_XModel_putIn_23 : decode Y_XModel_putIn.2.1 23 = .ok (.getfield 51, 3) := by decide +kernel
theorem d_XModel_putIn_26 : decode Y_XModel_putIn.2.1 26 = .ok (.iload_n 2, 1) := by decide +kernel
theorem d_XModel_putIn_27 : decode Y_XModel_putIn.2.1 27 = .ok (.iload_n 2, 1) := by decide +kernel
theorem d_XModel_putIn_28 : decode Y_XModel_putIn.2.1 28 = .ok (.iastore, 1) := by decide +kernel
theorem d_XModel_putIn_29 : decode Y_XModel_putIn.2.1 29 = .ok (.goto (173), 3) := by decide +kernel
theorem d_XModel_putIn_32 : decode Y_XModel_putIn.2.1 32 = .ok (.iload_n 3, 1) := by decide +kernel
theorem d_XModel_putIn_33 : decode Y_XModel_putIn.2.1 33 = .ok (.iconst 2, 1) := by decide +kernel
theorem d_XModel_putIn_34 : decode Y_XModel_putIn.2.1 34 = .ok (.if_icmp .ne (13), 3) := by decide +kernel
theorem d_XModel_putIn_37 : decode Y_XModel_putIn.2.1 37 = .ok (.aload_n 0, 1) := by decide +kernel
theorem d_XModel_putIn_38 : decode Y_XModel_putIn.2.1 38 = .ok (.getfield 51, 3) := by decide +kernel
theorem d_XModel_putIn_41 : decode Y_XModel_putIn.2.1 41 = .ok (.iload_n 2, 1) := by decide +kernel
theorem d_XModel_putIn_42 : decode Y_XModel_putIn.2.1 42 = .ok (.iload_n 1, 1) := by decide +kernel
theorem d_XModel_putIn_43 : decode Y_XModel_putIn.2.1 43 = .ok (.iastore, 1) := by decide +kernel
theorem d_XModel_putIn_44 : decode Y_XModel_putIn.2.1 44 = .ok (.goto (158), 3) := by decide +kernel
theorem d_XModel_putIn_47 : decode Y_XModel_putIn.2.1 47 = .ok (.iload_n 3, 1) := by decide +kernel
theorem d_XModel_putIn_48 : decode Y_XModel_putIn.2.1 48 = .ok (.iconst 5, 1) := by decide +kernel
theorem d_XModel_putIn_49 : decode Y_XModel_putIn.2.1 49 = .ok (.if_icmp .ge (23), 3) := by decide +kernel
theorem d_XModel_putIn_52 : decode Y_XModel_putIn.2.1 52 = .ok (.aload_n 0, 1) := by decide +kernel
theorem d_XModel_putIn_53 : decode Y_XModel_putIn.2.1 53 = .ok (.getfield 51, 3) := by decide +kernel
theorem d_XModel_putIn_56 : decode Y_XModel_putIn.2.1 56 = .ok (.iload_n 2, 1) := by decide +kernel
theorem d_XModel_putIn_57 : decode Y_XModel_putIn.2.1 57 = .ok (.aload_n 0, 1) := by decide +kernel
theorem d_XModel_putIn_58 : decode Y_XModel_putIn.2.1 58 = .ok (.getfield 54, 3) := by decide +kernel
theorem d_XModel_putIn_61 : decode Y_XModel_putIn.2.1 61 = .ok (.aload_n 0, 1) := by decide +kernel
theorem d_XModel_putIn_62 : decode Y_XModel_putIn.2.1 62 = .ok (.getfield 17, 3) := by decide +kernel
theorem d_XModel_putIn_65 : decode Y_XModel_putIn.2.1 65 = .ok (.iload_n 2, 1) := by decide +kernel
theorem d_XModel_putIn_66 : decode Y_XModel_putIn.2.1 66 = .ok (.iaload, 1) := by decide +kernel
theorem d_XModel_putIn_67 : decode Y_XModel_putIn.2.1 67 = .ok (.iaload, 1) := by decide +kernel
theorem d_XModel_putIn_68 : decode Y_XModel_putIn.2.1 68 = .ok (.iastore, 1) := by decide +kernel
theorem d_XModel_putIn_69 : decode Y_XModel_putIn.2.1 69 = .ok (.goto (133), 3) := by decide +kernel
theorem d_XModel_putIn_72 : decode Y_XModel_putIn.2.1 72 = .ok (.iload_n 3, 1) := by decide +kernel
theorem d_XModel_putIn_73 : decode Y_XModel_putIn.2.1 73 = .ok (.iconst 5, 1) := by decide +kernel
theorem d_XModel_putIn_74 : decode Y_XModel_putIn.2.1 74 = .ok (.if_icmp .ne (58), 3) := by decide +kernel
theorem d_XModel_putIn_77 : decode Y_XModel_putIn.2.1 77 = .ok (.aload_n 0, 1) := by decide +kernel
theorem d_XModel_putIn_78 : decode Y_XModel_putIn.2.1 78 = .ok (.getfield 51, 3) := by decide +kernel
theorem d_XModel_putIn_81 : decode Y_XModel_putIn.2.1 81 = .ok (.iload_n 2, 1) := by decide +kernel
theorem d_XModel_putIn_82 : decode Y_XModel_putIn.2.1 82 = .ok (.aload_n 0, 1) := by decide +kernel
theorem d_XModel_putIn_83 : decode Y_XModel_putIn.2.1 83 = .ok (.iload_n 3, 1) := by decide +kernel
theorem d_XModel_putIn_84 : decode Y_XModel_putIn.2.1 84 = .ok (.aload_n 0, 1) := by decide +kernel
theorem d_XModel_putIn_85 : decode Y_XModel_putIn.2.1 85 = .ok (.getfield 51, 3) := by decide +kernel
theorem d_XModel_putIn_88 : decode Y_XModel_putIn.2.1 88 = .ok (.aload_n 0, 1) := by decide +kernel
theorem d_XModel_putIn_89 : decode Y_XModel_putIn.2.1 89 = .ok (.getfield 17, 3) := by decide +kernel
theorem d_XModel_putIn_92 : decode Y_XModel_putIn.2.1 92 = .ok (.iload_n 2, 1) := by decide +kernel
theorem d_XModel_putIn_93 : decode Y_XModel_putIn.2.1 93 = .ok (.iaload, 1) := by decide +kernel
theorem d_XModel_putIn_94 : decode Y_XModel_putIn.2.1 94 = .ok (.iaload, 1) := by decide +kernel
theorem d_XModel_putIn_95 : decode Y_XModel_putIn.2.1 95 = .ok (.aload_n 0, 1) := by decide +kernel
theorem d_XModel_putIn_96 : decode Y_XModel_putIn.2.1 96 = .ok (.getfield 20, 3) := by decide +kernel
theorem d_XModel_putIn_99 : decode Y_XModel_putIn.2.1 99 = .ok (.iload_n 2, 1) := by decide +kernel
theorem d_XModel_putIn_100 : decode Y_XModel_putIn.2.1 100 = .ok (.iaload, 1) := by decide +kernel
theorem d_XModel_putIn_101 : decode Y_XModel_putIn.2.1 101 = .ok (.ifCond .ge (7), 3) := by decide +kernel
theorem d_XModel_putIn_104 : decode Y_XModel_putIn.2.1 104 = .ok (.iconst (-1), 1) := by decide +kernel
theorem d_XModel_putIn_105 : decode Y_XModel_putIn.2.1 105 = .ok (.goto (14), 3) := by decide +kernel
theorem d_XModel_putIn_108 : decode Y_XModel_putIn.2.1 108 = .ok (.aload_n 0, 1) := by decide +kernel
theorem d_XModel_putIn_109 : decode Y_XModel_putIn.2.1 109 = .ok (.getfield 51, 3) := by decide +kernel
theorem d_XModel_putIn_112 : decode Y_XModel_putIn.2.1 112 = .ok (.aload_n 0, 1) := by decide +kernel
theorem d_XModel_putIn_113 : decode Y_XModel_putIn.2.1 113 = .ok (.getfield 20, 3) := by decide +kernel
theorem d_XModel_putIn_116 : decode Y_XModel_putIn.2.1 116 = .ok (.iload_n 2, 1) := by decide +kernel
theorem d_XModel_putIn_117 : decode Y_XModel_putIn.2.1 117 = .ok (.iaload, 1) := by decide +kernel
theorem d_XModel_putIn_118 : decode Y_XModel_putIn.2.1 118 = .ok (.iaload, 1) := by decide +kernel
theorem d_XModel_putIn_119 : decode Y_XModel_putIn.2.1 119 = .ok (.aload_n 0, 1) := by decide +kernel
theorem d_XModel_putIn_120 : decode Y_XModel_putIn.2.1 120 = .ok (.getfield 23, 3) := by decide +kernel
theorem d_XModel_putIn_123 : decode Y_XModel_putIn.2.1 123 = .ok (.iload_n 2, 1) := by decide +kernel
theorem d_XModel_putIn_124 : decode Y_XModel_putIn.2.1 124 = .ok (.iaload, 1) := by decide +kernel
theorem d_XModel_putIn_125 : decode Y_XModel_putIn.2.1 125 = .ok (.invokevirtual 158, 3) := by decide +kernel
theorem d_XModel_putIn_128 : decode Y_XModel_putIn.2.1 128 = .ok (.iastore, 1) := by decide +kernel
theorem d_XModel_putIn_129 : decode Y_XModel_putIn.2.1 129 = .ok (.goto (73), 3) := by decide +kernel
theorem d_XModel_putIn_132 : decode Y_XModel_putIn.2.1 132 = .ok (.aload_n 0, 1) := by decide +kernel
theorem d_XModel_putIn_133 : decode Y_XModel_putIn.2.1 133 = .ok (.getfield 51, 3) := by decide +kernel
theorem d_XModel_putIn_136 : decode Y_XModel_putIn.2.1 136 = .ok (.iload_n 2, 1) := by decide +kernel
theorem d_XModel_putIn_137 : decode Y_XModel_putIn.2.1 137 = .ok (.aload_n 0, 1) := by decide +kernel
theorem d_XModel_putIn_138 : decode Y_XModel_putIn.2.1 138 = .ok (.iload_n 3, 1) := by decide +kernel
theorem d_XModel_putIn_139 : decode Y_XModel_putIn.2.1 139 = .ok (.aload_n 0, 1) := by decide +kernel
theorem d_XModel_putIn_140 : decode Y_XModel_putIn.2.1 140 = .ok (.getfield 51, 3) := by decide +kernel
theorem d_XModel_putIn_143 : decode Y_XModel_putIn.2.1 143 = .ok (.aload_n 0, 1) := by decide +kernel
theorem d_XModel_putIn_144 : decode Y_XModel_putIn.2.1 144 = .ok (.getfield 17, 3) := by decide +kernel
theorem d_XModel_putIn_147 : decode Y_XModel_putIn.2.1 147 = .ok (.iload_n 2, 1) := by decide +kernel
theorem d_XModel_putIn_148 : decode Y_XModel_putIn.2.1 148 = .ok (.iaload, 1) := by decide +kernel
theorem d_XModel_putIn_149 : decode Y_XModel_putIn.2.1 149 = .ok (.iaload, 1) := by decide +kernel
theorem d_XModel_putIn_150 : decode Y_XModel_putIn.2.1 150 = .ok (.aload_n 0, 1) := by decide +kernel
theorem d_XModel_putIn_151 : decode Y_XModel_putIn.2.1 151 = .ok (.getfield 20, 3) := by decide +kernel
theorem d_XModel_putIn_154 : decode Y_XModel_putIn.2.1 154 = .ok (.iload_n 2, 1) := by decide +kernel
theorem d_XModel_putIn_155 : decode Y_XModel_putIn.2.1 155 = .ok (.iaload, 1) := by decide +kernel
theorem d_XModel_putIn_156 : decode Y_XModel_putIn.2.1 156 = .ok (.ifCond .ge (7), 3) := by decide +kernel
theorem d_XModel_putIn_159 : decode Y_XModel_putIn.2.1 159 = .ok (.iconst (-1), 1) := by decide +kernel
theorem d_XModel_putIn_160 : decode Y_XModel_putIn.2.1 160 = .ok (.goto (14), 3) := by decide +kernel
theorem d_XModel_putIn_163 : decode Y_XModel_putIn.2.1 163 = .ok (.aload_n 0, 1) := by decide +kernel
theorem d_XModel_putIn_164 : decode Y_XModel_putIn.2.1 164 = .ok (.getfield 51, 3) := by decide +kernel
theorem d_XModel_putIn_167 : decode Y_XModel_putIn.2.1 167 = .ok (.aload_n 0, 1) := by decide +kernel
theorem d_XModel_putIn_168 : decode Y_XModel_putIn.2.1 168 = .ok (.getfield 20, 3) := by decide +kernel
theorem d_XModel_putIn_171 : decode Y_XModel_putIn.2.1 171 = .ok (.iload_n 2, 1) := by decide +kernel
theorem d_XModel_putIn_172 : decode Y_XModel_putIn.2.1 172 = .ok (.iaload, 1) := by decide +kernel
theorem d_XModel_putIn_173 : decode Y_XModel_putIn.2.1 173 = .ok (.iaload, 1) := by decide +kernel
theorem d_XModel_putIn_174 : decode Y_XModel_putIn.2.1 174 = .ok (.aload_n 0, 1) := by decide +kernel
theorem d_XModel_putIn_175 : decode Y_XModel_putIn.2.1 175 = .ok (.getfield 23, 3) := by decide +kernel
theorem d_XModel_putIn_178 : decode Y_XModel_putIn.2.1 178 = .ok (.iload_n 2, 1) := by decide +kernel
theorem d_XModel_putIn_179 : decode Y_XModel_putIn.2.1 179 = .ok (.iaload, 1) := by decide +kernel
theorem d_XModel_putIn_180 : decode Y_XModel_putIn.2.1 180 = .ok (.ifCond .ge (7), 3) := by decide +kernel
theorem d_XModel_putIn_183 : decode Y_XModel_putIn.2.1 183 = .ok (.iconst (-1), 1) := by decide +kernel
theorem d_XModel_putIn_184 : decode Y_XModel_putIn.2.1 184 = .ok (.goto (14), 3) := by decide +kernel
theorem d_XModel_putIn_187 : decode Y_XModel_putIn.2.1 187 = .ok (.aload_n 0, 1) := by decide +kernel
theorem d_XModel_putIn_188 : decode Y_XModel_putIn.2.1 188 = .ok (.getfield 51, 3) := by decide +kernel
theorem d_XModel_putIn_191 : decode Y_XModel_putIn.2.1 191 = .ok (.aload_n 0, 1) := by decide +kernel
theorem d_XModel_putIn_192 : decode Y_XModel_putIn.2.1 192 = .ok (.getfield 23, 3) := by decide +kernel
theorem d_XModel_putIn_195 : decode Y_XModel_putIn.2.1 195 = .ok (.iload_n 2, 1) := by decide +kernel
theorem d_XModel_putIn_196 : decode Y_XModel_putIn.2.1 196 = .ok (.iaload, 1) := by decide +kernel
theorem d_XModel_putIn_197 : decode Y_XModel_putIn.2.1 197 = .ok (.iaload, 1) := by decide +kernel
theorem d_XModel_putIn_198 : decode Y_XModel_putIn.2.1 198 = .ok (.invokevirtual 158, 3) := by decide +kernel
theorem d_XModel_putIn_201 : decode Y_XModel_putIn.2.1 201 = .ok (.iastore, 1) := by decide +kernel
theorem d_XModel_putIn_202 : decode Y_XModel_putIn.2.1 202 = .ok (.iinc 2 (1), 3) := by decide +kernel
theorem d_XModel_putIn_205 : decode Y_XModel_putIn.2.1 205 = .ok (.goto (-203), 3) := by decide +kernel
theorem d_XModel_putIn_208 : decode Y_XModel_putIn.2.1 208 = .ok (.return_, 1) := by decide +kernel
def F_XModel_putIn_202 (n : Nat) (rec2 : Nat → Int32 → Int32 → PM → qO) (l0 : Nat) (l1 : Int32) (l2 : Int32) (M : PM) : qO :=
  bI (l2 + (1 : Int32)) (fun v1 =>
  rec2 l0 l1 v1 M)
set_option maxHeartbeats 4000000 in
set_option maxRecDepth 100000 in
theorem E_XModel_putIn_202 {g : qG} {X : qX} {Z : qZ} (hn : 5 ≤ zn Z) (hl : 120 ≤ zl Z) {n : Nat} {rec2 : Nat → Int32 → Int32 → PM → qO} (hrec2 : ∀ (l0 : Nat) (l1 : Int32) (l2 : Int32) (M : PM), rec2 l0 l1 l2 M = some (zr Z, zf Z) → EW Y_XModel_putIn g X Z 2 [(0, .ref l0), (1, .int l1), (2, .int l2)] [] M) {l0 : Nat} {l1 : Int32} {l2 : Int32} {M : PM} (h : F_XModel_putIn_202 n rec2 l0 l1 l2 M = some (zr Z, zf Z)) : EW Y_XModel_putIn g X Z 202 [(0, .ref l0), (1, .int l1), (2, .int l2)] [] M := by
  unfold F_XModel_putIn_202 at h
  obtain ⟨v1, ev1, h⟩ := bI_inv h
  refine ew_iinc (L' := [(0, .ref l0), (1, .int l1), (2, .int v1)]) v1 [1, 2, 0] d_XModel_putIn_202 rfl (by rw [ev1]; rfl) (by decide) rfl ?_
  refine ew_goto 2 d_XModel_putIn_205 (by decide) ?_
  exact hrec2 l0 l1 v1 M h
def F_XModel_putIn_119 (n : Nat) (rec2 : Nat → Int32 → Int32 → PM → qO) (l0 : Nat) (l1 : Int32) (l2 : Int32) (s0 : Nat) (s1 : Int32) (s2 : Nat) (s3 : Int32) (s4 : Int32) (s5 : Int32) (M : PM) : qO :=
  gR 0 M l0 6 (fun v1 =>
  lI M v1 l2 (fun v2 =>
  kO 0 M s2 (
  cI (F_XModel_make n s2 s3 s4 s5 v2 M) (fun v4 M3 =>
  wI M3 s0 s1 v4 (fun M5 =>
  F_XModel_putIn_202 n rec2 l0 l1 l2 M5)))))
set_option maxHeartbeats 4000000 in
set_option maxRecDepth 100000 in
theorem E_XModel_putIn_119 {g : qG} {X : qX} {Z : qZ} (hn : 5 ≤ zn Z) (hl : 120 ≤ zl Z) {n : Nat} {rec2 : Nat → Int32 → Int32 → PM → qO} (hrec2 : ∀ (l0 : Nat) (l1 : Int32) (l2 : Int32) (M : PM), rec2 l0 l1 l2 M = some (zr Z, zf Z) → EW Y_XModel_putIn g X Z 2 [(0, .ref l0), (1, .int l1), (2, .int l2)] [] M) {l0 : Nat} {l1 : Int32} {l2 : Int32} {s0 : Nat} {s1 : Int32} {s2 : Nat} {s3 : Int32} {s4 : Int32} {s5 : Int32} {M : PM} (h : F_XModel_putIn_119 n rec2 l0 l1 l2 s0 s1 s2 s3 s4 s5 M = some (zr Z, zf Z)) : EW Y_XModel_putIn g X Z 119 [(0, .ref l0), (1, .int l1), (2, .int l2)] [.int s5, .int s4, .int s3, .ref s2, .int s1, .ref s0] M := by
  unfold F_XModel_putIn_119 at h
  refine ew_aload_n 0 d_XModel_putIn_119 rfl rfl ?_
  obtain ⟨v1, av1, bv1, h⟩ := gR_inv h
  refine ew_gR 0 6 d_XModel_putIn_120 fl_XModel_23 av1 bv1 ?_
  refine ew_iload_n 2 d_XModel_putIn_123 rfl rfl ?_
  obtain ⟨v2, av2, bv2, cv2, ev2, h⟩ := lI_inv h
  refine ew_lI d_XModel_putIn_124 av2 bv2 cv2 ev2 ?_
  obtain ⟨kM3, h⟩ := kO_inv h
  obtain ⟨v4, M3, hM3, h⟩ := cI_inv h
  refine ew_callV 0 [.int s3, .int s4, .int s5, .int v2] d_XModel_putIn_125 cv_XModel_158 (T_XModel_make hM3) kM3 (Nat.le_trans (Nat.le_of_ble_eq_true rfl) hn) (Nat.le_trans (Nat.le_of_ble_eq_true rfl) hl) (Nat.le_of_ble_eq_true rfl) rfl rfl ?_
  obtain ⟨M5, aM5, bM5, cM5, eM5, h⟩ := wI_inv h
  refine ew_wI d_XModel_putIn_128 aM5 bM5 cM5 eM5 ?_
  refine ew_goto 202 d_XModel_putIn_129 (by decide) ?_
  exact E_XModel_putIn_202 hn hl hrec2 h
def F_XModel_putIn_198 (n : Nat) (rec2 : Nat → Int32 → Int32 → PM → qO) (l0 : Nat) (l1 : Int32) (l2 : Int32) (s0 : Nat) (s1 : Int32) (s2 : Nat) (s3 : Int32) (s4 : Int32) (s5 : Int32) (s6 : Int32) (M : PM) : qO :=
  kO 0 M s2 (
  cI (F_XModel_make n s2 s3 s4 s5 s6 M) (fun v2 M1 =>
  wI M1 s0 s1 v2 (fun M3 =>
  F_XModel_putIn_202 n rec2 l0 l1 l2 M3)))
set_option maxHeartbeats 4000000 in
set_option maxRecDepth 100000 in
theorem E_XModel_putIn_198 {g : qG} {X : qX} {Z : qZ} (hn : 5 ≤ zn Z) (hl : 120 ≤ zl Z) {n : Nat} {rec2 : Nat → Int32 → Int32 → PM → qO} (hrec2 : ∀ (l0 : Nat) (l1 : Int32) (l2 : Int32) (M : PM), rec2 l0 l1 l2 M = some (zr Z, zf Z) → EW Y_XModel_putIn g X Z 2 [(0, .ref l0), (1, .int l1), (2, .int l2)] [] M) {l0 : Nat} {l1 : Int32} {l2 : Int32} {s0 : Nat} {s1 : Int32} {s2 : Nat} {s3 : Int32} {s4 : Int32} {s5 : Int32} {s6 : Int32} {M : PM} (h : F_XModel_putIn_198 n rec2 l0 l1 l2 s0 s1 s2 s3 s4 s5 s6 M = some (zr Z, zf Z)) : EW Y_XModel_putIn g X Z 198 [(0, .ref l0), (1, .int l1), (2, .int l2)] [.int s6, .int s5, .int s4, .int s3, .ref s2, .int s1, .ref s0] M := by
  unfold F_XModel_putIn_198 at h
  obtain ⟨kM1, h⟩ := kO_inv h
  obtain ⟨v2, M1, hM1, h⟩ := cI_inv h
  refine ew_callV 0 [.int s3, .int s4, .int s5, .int s6] d_XModel_putIn_198 cv_XModel_158 (T_XModel_make hM1) kM1 (Nat.le_trans (Nat.le_of_ble_eq_true rfl) hn) (Nat.le_trans (Nat.le_of_ble_eq_true rfl) hl) (Nat.le_of_ble_eq_true rfl) rfl rfl ?_
  obtain ⟨M3, aM3, bM3, cM3, eM3, h⟩ := wI_inv h
  refine ew_wI d_XModel_putIn_201 aM3 bM3 cM3 eM3 ?_
  exact E_XModel_putIn_202 hn hl hrec2 h
def F_XModel_putIn_174 (n : Nat) (rec2 : Nat → Int32 → Int32 → PM → qO) (l0 : Nat) (l1 : Int32) (l2 : Int32) (s0 : Nat) (s1 : Int32) (s2 : Nat) (s3 : Int32) (s4 : Int32) (s5 : Int32) (M : PM) : qO :=
  gR 0 M l0 6 (fun v1 =>
  lI M v1 l2 (fun v2 =>
  if (0 : Int32) ≤ v2 then
    gR 0 M l0 17 (fun v4 =>
    gR 0 M l0 6 (fun v5 =>
    lI M v5 l2 (fun v6 =>
    lI M v4 v6 (fun v7 =>
    F_XModel_putIn_198 n rec2 l0 l1 l2 s0 s1 s2 s3 s4 s5 v7 M))))
  else
    F_XModel_putIn_198 n rec2 l0 l1 l2 s0 s1 s2 s3 s4 s5 (-1 : Int32) M))
set_option maxHeartbeats 4000000 in
set_option maxRecDepth 100000 in
theorem E_XModel_putIn_174 {g : qG} {X : qX} {Z : qZ} (hn : 5 ≤ zn Z) (hl : 120 ≤ zl Z) {n : Nat} {rec2 : Nat → Int32 → Int32 → PM → qO} (hrec2 : ∀ (l0 : Nat) (l1 : Int32) (l2 : Int32) (M : PM), rec2 l0 l1 l2 M = some (zr Z, zf Z) → EW Y_XModel_putIn g X Z 2 [(0, .ref l0), (1, .int l1), (2, .int l2)] [] M) {l0 : Nat} {l1 : Int32} {l2 : Int32} {s0 : Nat} {s1 : Int32} {s2 : Nat} {s3 : Int32} {s4 : Int32} {s5 : Int32} {M : PM} (h : F_XModel_putIn_174 n rec2 l0 l1 l2 s0 s1 s2 s3 s4 s5 M = some (zr Z, zf Z)) : EW Y_XModel_putIn g X Z 174 [(0, .ref l0), (1, .int l1), (2, .int l2)] [.int s5, .int s4, .int s3, .ref s2, .int s1, .ref s0] M := by
  unfold F_XModel_putIn_174 at h
  refine ew_aload_n 0 d_XModel_putIn_174 rfl rfl ?_
  obtain ⟨v1, av1, bv1, h⟩ := gR_inv h
  refine ew_gR 0 6 d_XModel_putIn_175 fl_XModel_23 av1 bv1 ?_
  refine ew_iload_n 2 d_XModel_putIn_178 rfl rfl ?_
  obtain ⟨v2, av2, bv2, cv2, ev2, h⟩ := lI_inv h
  refine ew_lI d_XModel_putIn_179 av2 bv2 cv2 ev2 ?_
  refine ew_if_ge 187 d_XModel_putIn_180 (by decide) (fun c3 => ?_) (fun c3 => ?_)
  · rw [if_pos c3] at h
    refine ew_aload_n 0 d_XModel_putIn_187 rfl rfl ?_
    obtain ⟨v4, av4, bv4, h⟩ := gR_inv h
    refine ew_gR 0 17 d_XModel_putIn_188 fl_XModel_51 av4 bv4 ?_
    refine ew_aload_n 0 d_XModel_putIn_191 rfl rfl ?_
    obtain ⟨v5, av5, bv5, h⟩ := gR_inv h
    refine ew_gR 0 6 d_XModel_putIn_192 fl_XModel_23 av5 bv5 ?_
    refine ew_iload_n 2 d_XModel_putIn_195 rfl rfl ?_
    obtain ⟨v6, av6, bv6, cv6, ev6, h⟩ := lI_inv h
    refine ew_lI d_XModel_putIn_196 av6 bv6 cv6 ev6 ?_
    obtain ⟨v7, av7, bv7, cv7, ev7, h⟩ := lI_inv h
    refine ew_lI d_XModel_putIn_197 av7 bv7 cv7 ev7 ?_
    exact E_XModel_putIn_198 hn hl hrec2 h
  · rw [if_neg c3] at h
    refine ew_iconst (-1) d_XModel_putIn_183 (by decide) ?_
    refine ew_goto 198 d_XModel_putIn_184 (by decide) ?_
    exact E_XModel_putIn_198 hn hl hrec2 h
def F_XModel_putIn_2 (n : Nat) : Nat → Nat → Int32 → Int32 → PM → qO
  | 0, _, _, _, _ => none
  | f + 1, l0, l1, l2, M =>
    gI 0 M l0 1 (fun v1 =>
    if v1 ≤ l2 then
      some (.inl none, M)
    else
      gR 0 M l0 3 (fun v3 =>
      lI M v3 l2 (fun v4 =>
      if (2 : Int32) ≤ v4 then
        if v4 = (2 : Int32) then
          gR 0 M l0 17 (fun v39 =>
          wI M v39 l2 l1 (fun M40 =>
          F_XModel_putIn_202 n (F_XModel_putIn_2 n f) l0 l1 l2 M40))
        else
          if (5 : Int32) ≤ v4 then
            if v4 = (5 : Int32) then
              gR 0 M l0 17 (fun v21 =>
              gR 0 M l0 17 (fun v22 =>
              gR 0 M l0 4 (fun v23 =>
              lI M v23 l2 (fun v24 =>
              lI M v22 v24 (fun v25 =>
              gR 0 M l0 5 (fun v26 =>
              lI M v26 l2 (fun v27 =>
              if (0 : Int32) ≤ v27 then
                gR 0 M l0 17 (fun v29 =>
                gR 0 M l0 5 (fun v30 =>
                lI M v30 l2 (fun v31 =>
                lI M v29 v31 (fun v32 =>
                F_XModel_putIn_119 n (F_XModel_putIn_2 n f) l0 l1 l2 v21 l2 l0 v4 v25 v32 M))))
              else
                F_XModel_putIn_119 n (F_XModel_putIn_2 n f) l0 l1 l2 v21 l2 l0 v4 v25 (-1 : Int32) M)))))))
            else
              gR 0 M l0 17 (fun v9 =>
              gR 0 M l0 17 (fun v10 =>
              gR 0 M l0 4 (fun v11 =>
              lI M v11 l2 (fun v12 =>
              lI M v10 v12 (fun v13 =>
              gR 0 M l0 5 (fun v14 =>
              lI M v14 l2 (fun v15 =>
              if (0 : Int32) ≤ v15 then
                gR 0 M l0 17 (fun v17 =>
                gR 0 M l0 5 (fun v18 =>
                lI M v18 l2 (fun v19 =>
                lI M v17 v19 (fun v20 =>
                F_XModel_putIn_174 n (F_XModel_putIn_2 n f) l0 l1 l2 v9 l2 l0 v4 v13 v20 M))))
              else
                F_XModel_putIn_174 n (F_XModel_putIn_2 n f) l0 l1 l2 v9 l2 l0 v4 v13 (-1 : Int32) M)))))))
          else
            gR 0 M l0 17 (fun v33 =>
            gR 0 M l0 18 (fun v34 =>
            gR 0 M l0 4 (fun v35 =>
            lI M v35 l2 (fun v36 =>
            lI M v34 v36 (fun v37 =>
            wI M v33 l2 v37 (fun M38 =>
            F_XModel_putIn_202 n (F_XModel_putIn_2 n f) l0 l1 l2 M38))))))
      else
        gR 0 M l0 17 (fun v41 =>
        wI M v41 l2 l2 (fun M42 =>
        F_XModel_putIn_202 n (F_XModel_putIn_2 n f) l0 l1 l2 M42)))))
set_option maxHeartbeats 4000000 in
set_option maxRecDepth 100000 in
theorem E_XModel_putIn_2 {g : qG} {X : qX} {Z : qZ} (hn : 5 ≤ zn Z) (hl : 120 ≤ zl Z) {n : Nat} : ∀ (f : Nat) (l0 : Nat) (l1 : Int32) (l2 : Int32) (M : PM), F_XModel_putIn_2 n f l0 l1 l2 M = some (zr Z, zf Z) → EW Y_XModel_putIn g X Z 2 [(0, .ref l0), (1, .int l1), (2, .int l2)] [] M := by
  intro f
  induction f with
  | zero => intro l0 l1 l2 M h; rw [F_XModel_putIn_2] at h; cases h
  | succ f ih =>
    intro l0 l1 l2 M h
    rw [F_XModel_putIn_2] at h
    refine ew_iload_n 2 d_XModel_putIn_2 rfl rfl ?_
    refine ew_aload_n 0 d_XModel_putIn_3 rfl rfl ?_
    obtain ⟨v1, av1, bv1, h⟩ := gI_inv h
    refine ew_gI 0 1 d_XModel_putIn_4 fl_XModel_7 av1 bv1 ?_
    refine ew_icmp_ge 208 d_XModel_putIn_7 (by decide) (fun c2 => ?_) (fun c2 => ?_)
    · rw [if_pos c2] at h
      obtain ⟨hz, hm⟩ := Prod.mk.inj (Option.some.inj h)
      exact ew_return d_XModel_putIn_208 rfl hz.symm hm.symm
    · rw [if_neg c2] at h
      refine ew_aload_n 0 d_XModel_putIn_10 rfl rfl ?_
      obtain ⟨v3, av3, bv3, h⟩ := gR_inv h
      refine ew_gR 0 3 d_XModel_putIn_11 fl_XModel_13 av3 bv3 ?_
      refine ew_iload_n 2 d_XModel_putIn_14 rfl rfl ?_
      obtain ⟨v4, av4, bv4, cv4, ev4, h⟩ := lI_inv h
      refine ew_lI d_XModel_putIn_15 av4 bv4 cv4 ev4 ?_
      refine ew_istore_n (L' := [(0, .ref l0), (1, .int l1), (2, .int l2), (3, .int v4)]) 3 [1, 2, 3, 0] d_XModel_putIn_16 rfl (by decide) rfl ?_
      refine ew_iload_n 3 d_XModel_putIn_17 rfl rfl ?_
      refine ew_iconst (2) d_XModel_putIn_18 (by decide) ?_
      refine ew_icmp_ge 32 d_XModel_putIn_19 (by decide) (fun c5 => ?_) (fun c5 => ?_)
      · rw [if_pos c5] at h
        refine ew_iload_n 3 d_XModel_putIn_32 rfl rfl ?_
        refine ew_iconst (2) d_XModel_putIn_33 (by decide) ?_
        refine ew_icmp_ne 47 d_XModel_putIn_34 (by decide) (fun c6 => ?_) (fun c6 => ?_)
        · rw [if_neg c6] at h
          refine ew_iload_n 3 d_XModel_putIn_47 rfl rfl ?_
          refine ew_iconst (5) d_XModel_putIn_48 (by decide) ?_
          refine ew_icmp_ge 72 d_XModel_putIn_49 (by decide) (fun c7 => ?_) (fun c7 => ?_)
          · rw [if_pos c7] at h
            refine ew_iload_n 3 d_XModel_putIn_72 rfl rfl ?_
            refine ew_iconst (5) d_XModel_putIn_73 (by decide) ?_
            refine ew_icmp_ne 132 d_XModel_putIn_74 (by decide) (fun c8 => ?_) (fun c8 => ?_)
            · rw [if_neg c8] at h
              refine ew_aload_n 0 d_XModel_putIn_132 rfl rfl ?_
              obtain ⟨v9, av9, bv9, h⟩ := gR_inv h
              refine ew_gR 0 17 d_XModel_putIn_133 fl_XModel_51 av9 bv9 ?_
              refine ew_iload_n 2 d_XModel_putIn_136 rfl rfl ?_
              refine ew_aload_n 0 d_XModel_putIn_137 rfl rfl ?_
              refine ew_iload_n 3 d_XModel_putIn_138 rfl rfl ?_
              refine ew_aload_n 0 d_XModel_putIn_139 rfl rfl ?_
              obtain ⟨v10, av10, bv10, h⟩ := gR_inv h
              refine ew_gR 0 17 d_XModel_putIn_140 fl_XModel_51 av10 bv10 ?_
              refine ew_aload_n 0 d_XModel_putIn_143 rfl rfl ?_
              obtain ⟨v11, av11, bv11, h⟩ := gR_inv h
              refine ew_gR 0 4 d_XModel_putIn_144 fl_XModel_17 av11 bv11 ?_
              refine ew_iload_n 2 d_XModel_putIn_147 rfl rfl ?_
              obtain ⟨v12, av12, bv12, cv12, ev12, h⟩ := lI_inv h
              refine ew_lI d_XModel_putIn_148 av12 bv12 cv12 ev12 ?_
              obtain ⟨v13, av13, bv13, cv13, ev13, h⟩ := lI_inv h
              refine ew_lI d_XModel_putIn_149 av13 bv13 cv13 ev13 ?_
              refine ew_aload_n 0 d_XModel_putIn_150 rfl rfl ?_
              obtain ⟨v14, av14, bv14, h⟩ := gR_inv h
              refine ew_gR 0 5 d_XModel_putIn_151 fl_XModel_20 av14 bv14 ?_
              refine ew_iload_n 2 d_XModel_putIn_154 rfl rfl ?_
              obtain ⟨v15, av15, bv15, cv15, ev15, h⟩ := lI_inv h
              refine ew_lI d_XModel_putIn_155 av15 bv15 cv15 ev15 ?_
              refine ew_if_ge 163 d_XModel_putIn_156 (by decide) (fun c16 => ?_) (fun c16 => ?_)
              · rw [if_pos c16] at h
                refine ew_aload_n 0 d_XModel_putIn_163 rfl rfl ?_
                obtain ⟨v17, av17, bv17, h⟩ := gR_inv h
                refine ew_gR 0 17 d_XModel_putIn_164 fl_XModel_51 av17 bv17 ?_
                refine ew_aload_n 0 d_XModel_putIn_167 rfl rfl ?_
                obtain ⟨v18, av18, bv18, h⟩ := gR_inv h
                refine ew_gR 0 5 d_XModel_putIn_168 fl_XModel_20 av18 bv18 ?_
                refine ew_iload_n 2 d_XModel_putIn_171 rfl rfl ?_
                obtain ⟨v19, av19, bv19, cv19, ev19, h⟩ := lI_inv h
                refine ew_lI d_XModel_putIn_172 av19 bv19 cv19 ev19 ?_
                obtain ⟨v20, av20, bv20, cv20, ev20, h⟩ := lI_inv h
                refine ew_lI d_XModel_putIn_173 av20 bv20 cv20 ev20 ?_
                exact ew_pick (L' := [(0, .ref l0), (1, .int l1), (2, .int l2)]) [0, 1, 2] rfl (E_XModel_putIn_174 hn hl ih h)
              · rw [if_neg c16] at h
                refine ew_iconst (-1) d_XModel_putIn_159 (by decide) ?_
                refine ew_goto 174 d_XModel_putIn_160 (by decide) ?_
                exact ew_pick (L' := [(0, .ref l0), (1, .int l1), (2, .int l2)]) [0, 1, 2] rfl (E_XModel_putIn_174 hn hl ih h)
            · rw [if_pos c8] at h
              refine ew_aload_n 0 d_XModel_putIn_77 rfl rfl ?_
              obtain ⟨v21, av21, bv21, h⟩ := gR_inv h
              refine ew_gR 0 17 d_XModel_putIn_78 fl_XModel_51 av21 bv21 ?_
              refine ew_iload_n 2 d_XModel_putIn_81 rfl rfl ?_
              refine ew_aload_n 0 d_XModel_putIn_82 rfl rfl ?_
              refine ew_iload_n 3 d_XModel_putIn_83 rfl rfl ?_
              refine ew_aload_n 0 d_XModel_putIn_84 rfl rfl ?_
              obtain ⟨v22, av22, bv22, h⟩ := gR_inv h
              refine ew_gR 0 17 d_XModel_putIn_85 fl_XModel_51 av22 bv22 ?_
              refine ew_aload_n 0 d_XModel_putIn_88 rfl rfl ?_
              obtain ⟨v23, av23, bv23, h⟩ := gR_inv h
              refine ew_gR 0 4 d_XModel_putIn_89 fl_XModel_17 av23 bv23 ?_
              refine ew_iload_n 2 d_XModel_putIn_92 rfl rfl ?_
              obtain ⟨v24, av24, bv24, cv24, ev24, h⟩ := lI_inv h
              refine ew_lI d_XModel_putIn_93 av24 bv24 cv24 ev24 ?_
              obtain ⟨v25, av25, bv25, cv25, ev25, h⟩ := lI_inv h
              refine ew_lI d_XModel_putIn_94 av25 bv25 cv25 ev25 ?_
              refine ew_aload_n 0 d_XModel_putIn_95 rfl rfl ?_
              obtain ⟨v26, av26, bv26, h⟩ := gR_inv h
              refine ew_gR 0 5 d_XModel_putIn_96 fl_XModel_20 av26 bv26 ?_
              refine ew_iload_n 2 d_XModel_putIn_99 rfl rfl ?_
              obtain ⟨v27, av27, bv27, cv27, ev27, h⟩ := lI_inv h
              refine ew_lI d_XModel_putIn_100 av27 bv27 cv27 ev27 ?_
              refine ew_if_ge 108 d_XModel_putIn_101 (by decide) (fun c28 => ?_) (fun c28 => ?_)
              · rw [if_pos c28] at h
                refine ew_aload_n 0 d_XModel_putIn_108 rfl rfl ?_
                obtain ⟨v29, av29, bv29, h⟩ := gR_inv h
                refine ew_gR 0 17 d_XModel_putIn_109 fl_XModel_51 av29 bv29 ?_
                refine ew_aload_n 0 d_XModel_putIn_112 rfl rfl ?_
                obtain ⟨v30, av30, bv30, h⟩ := gR_inv h
                refine ew_gR 0 5 d_XModel_putIn_113 fl_XModel_20 av30 bv30 ?_
                refine ew_iload_n 2 d_XModel_putIn_116 rfl rfl ?_
                obtain ⟨v31, av31, bv31, cv31, ev31, h⟩ := lI_inv h
                refine ew_lI d_XModel_putIn_117 av31 bv31 cv31 ev31 ?_
                obtain ⟨v32, av32, bv32, cv32, ev32, h⟩ := lI_inv h
                refine ew_lI d_XModel_putIn_118 av32 bv32 cv32 ev32 ?_
                exact ew_pick (L' := [(0, .ref l0), (1, .int l1), (2, .int l2)]) [0, 1, 2] rfl (E_XModel_putIn_119 hn hl ih h)
              · rw [if_neg c28] at h
                refine ew_iconst (-1) d_XModel_putIn_104 (by decide) ?_
                refine ew_goto 119 d_XModel_putIn_105 (by decide) ?_
                exact ew_pick (L' := [(0, .ref l0), (1, .int l1), (2, .int l2)]) [0, 1, 2] rfl (E_XModel_putIn_119 hn hl ih h)
          · rw [if_neg c7] at h
            refine ew_aload_n 0 d_XModel_putIn_52 rfl rfl ?_
            obtain ⟨v33, av33, bv33, h⟩ := gR_inv h
            refine ew_gR 0 17 d_XModel_putIn_53 fl_XModel_51 av33 bv33 ?_
            refine ew_iload_n 2 d_XModel_putIn_56 rfl rfl ?_
            refine ew_aload_n 0 d_XModel_putIn_57 rfl rfl ?_
            obtain ⟨v34, av34, bv34, h⟩ := gR_inv h
            refine ew_gR 0 18 d_XModel_putIn_58 fl_XModel_54 av34 bv34 ?_
            refine ew_aload_n 0 d_XModel_putIn_61 rfl rfl ?_
            obtain ⟨v35, av35, bv35, h⟩ := gR_inv h
            refine ew_gR 0 4 d_XModel_putIn_62 fl_XModel_17 av35 bv35 ?_
            refine ew_iload_n 2 d_XModel_putIn_65 rfl rfl ?_
            obtain ⟨v36, av36, bv36, cv36, ev36, h⟩ := lI_inv h
            refine ew_lI d_XModel_putIn_66 av36 bv36 cv36 ev36 ?_
            obtain ⟨v37, av37, bv37, cv37, ev37, h⟩ := lI_inv h
            refine ew_lI d_XModel_putIn_67 av37 bv37 cv37 ev37 ?_
            obtain ⟨M38, aM38, bM38, cM38, eM38, h⟩ := wI_inv h
            refine ew_wI d_XModel_putIn_68 aM38 bM38 cM38 eM38 ?_
            refine ew_goto 202 d_XModel_putIn_69 (by decide) ?_
            exact ew_pick (L' := [(0, .ref l0), (1, .int l1), (2, .int l2)]) [0, 1, 2] rfl (E_XModel_putIn_202 hn hl ih h)
        · rw [if_pos c6] at h
          refine ew_aload_n 0 d_XModel_putIn_37 rfl rfl ?_
          obtain ⟨v39, av39, bv39, h⟩ := gR_inv h
          refine ew_gR 0 17 d_XModel_putIn_38 fl_XModel_51 av39 bv39 ?_
          refine ew_iload_n 2 d_XModel_putIn_41 rfl rfl ?_
          refine ew_iload_n 1 d_XModel_putIn_42 rfl rfl ?_
          obtain ⟨M40, aM40, bM40, cM40, eM40, h⟩ := wI_inv h
          refine ew_wI d_XModel_putIn_43 aM40 bM40 cM40 eM40 ?_
          refine ew_goto 202 d_XModel_putIn_44 (by decide) ?_
          exact ew_pick (L' := [(0, .ref l0), (1, .int l1), (2, .int l2)]) [0, 1, 2] rfl (E_XModel_putIn_202 hn hl ih h)
      · rw [if_neg c5] at h
        refine ew_aload_n 0 d_XModel_putIn_22 rfl rfl ?_
        obtain ⟨v41, av41, bv41, h⟩ := gR_inv h
        refine ew_gR 0 17 d_XModel_putIn_23 fl_XModel_51 av41 bv41 ?_
        refine ew_iload_n 2 d_XModel_putIn_26 rfl rfl ?_
        refine ew_iload_n 2 d_XModel_putIn_27 rfl rfl ?_
        obtain ⟨M42, aM42, bM42, cM42, eM42, h⟩ := wI_inv h
        refine ew_wI d_XModel_putIn_28 aM42 bM42 cM42 eM42 ?_
        refine ew_goto 202 d_XModel_putIn_29 (by decide) ?_
        exact ew_pick (L' := [(0, .ref l0), (1, .int l1), (2, .int l2)]) [0, 1, 2] rfl (E_XModel_putIn_202 hn hl ih h)
def F_XModel_putIn (n : Nat) (l0 : Nat) (l1 : Int32) (M : PM) : qO :=
  F_XModel_putIn_2 n n l0 l1 (0 : Int32) M
set_option maxHeartbeats 4000000 in
set_option maxRecDepth 100000 in
theorem E_XModel_putIn {g : qG} {X : qX} {Z : qZ} (hn : 5 ≤ zn Z) (hl : 120 ≤ zl Z) {n : Nat} {l0 : Nat} {l1 : Int32} {M : PM} (h : F_XModel_putIn n l0 l1 M = some (zr Z, zf Z)) : EW Y_XModel_putIn g X Z 0 [(0, .ref l0), (1, .int l1)] [] M := by
  unfold F_XModel_putIn at h
  refine ew_iconst (0) d_XModel_putIn_0 (by decide) ?_
  refine ew_istore_n (L' := [(0, .ref l0), (1, .int l1), (2, .int (0 : Int32))]) 2 [1, 2, 0] d_XModel_putIn_1 rfl (by decide) rfl ?_
  exact E_XModel_putIn_2 hn hl n l0 l1 (0 : Int32) M h
theorem T_XModel_putIn {n : Nat} {l0 : Nat} {l1 : Int32} {M Mf : PM} {res : qRs} (h : F_XModel_putIn n l0 l1 M = some (res, Mf)) : CT Y_XModel_putIn 5 120 [.ref l0, .int l1] M res Mf :=
  CT_of (by decide) (Nat.le_of_ble_eq_true rfl) (qHd_ne (by decide)) (fun g X ad0 => E_XModel_putIn (g := g) (X := X) (Z := (ad0, M, res, Mf, 5, 120)) (Nat.le_refl _) (Nat.le_refl _) h)
