theorem d_XModel_chainOf_0 : decode Y_XModel_chainOf.2.1 0 = .ok (.iload_n 0, 1) := by decide +kernel
theorem d_XModel_chainOf_1 : decode Y_XModel_chainOf.2.1 1 = .ok (.bipush (31), 2) := by decide +kernel
theorem d_XModel_chainOf_3 : decode Y_XModel_chainOf.2.1 3 = .ok (.imul, 1) := by decide +kernel
theorem d_XModel_chainOf_4 : decode Y_XModel_chainOf.2.1 4 = .ok (.iload_n 1, 1) := by decide +kernel
theorem d_XModel_chainOf_5 : decode Y_XModel_chainOf.2.1 5 = .ok (.iadd, 1) := by decide +kernel
theorem d_XModel_chainOf_6 : decode Y_XModel_chainOf.2.1 6 = .ok (.iconst 1, 1) := by decide +kernel
theorem d_XModel_chainOf_7 : decode Y_XModel_chainOf.2.1 7 = .ok (.iadd, 1) := by decide +kernel
theorem d_XModel_chainOf_8 : decode Y_XModel_chainOf.2.1 8 = .ok (.bipush (31), 2) := by decide +kernel
theorem d_XModel_chainOf_10 : decode Y_XModel_chainOf.2.1 10 = .ok (.imul, 1) := by decide +kernel
theorem d_XModel_chainOf_11 : decode Y_XModel_chainOf.2.1 11 = .ok (.iload_n 2, 1) := by decide +kernel
theorem d_XModel_chainOf_12 : decode Y_XModel_chainOf.2.1 12 = .ok (.iadd, 1) := by decide +kernel
theorem d_XModel_chainOf_13 : decode Y_XModel_chainOf.2.1 13 = .ok (.iconst 1, 1) := by decide +kernel
theorem d_XModel_chainOf_14 : decode Y_XModel_chainOf.2.1 14 = .ok (.iadd, 1) := by decide +kernel
theorem d_XModel_chainOf_15 : decode Y_XModel_chainOf.2.1 15 = .ok (.bipush (31), 2) := by decide +kernel
theorem d_XModel_chainOf_17 : decode Y_XModel_chainOf.2.1 17 = .ok (.imul, 1) := by decide +kernel
theorem d_XModel_chainOf_18 : decode Y_XModel_chainOf.2.1 18 = .ok (.iload_n 3, 1) := by decide +kernel
theorem d_XModel_chainOf_19 : decode Y_XModel_chainOf.2.1 19 = .ok (.iadd, 1) := by decide +kernel
theorem d_XModel_chainOf_20 : decode Y_XModel_chainOf.2.1 20 = .ok (.iconst 1, 1) := by decide +kernel
theorem d_XModel_chainOf_21 : decode Y_XModel_chainOf.2.1 21 = .ok (.iadd, 1) := by decide +kernel
theorem d_XModel_chainOf_22 : decode Y_XModel_chainOf.2.1 22 = .ok (.ldc 90, 2) := by decide +kernel
theorem d_XModel_chainOf_24 : decode Y_XModel_chainOf.2.1 24 = .ok (.iand, 1) := by decide +kernel
theorem d_XModel_chainOf_25 : decode Y_XModel_chainOf.2.1 25 = .ok (.sipush (1021), 3) := by decide +kernel
theorem d_XModel_chainOf_28 : decode Y_XModel_chainOf.2.1 28 = .ok (.irem, 1) := by decide +kernel
theorem d_XModel_chainOf_29 : decode Y_XModel_chainOf.2.1 29 = .ok (.ireturn, 1) := by decide +kernel
def F_XModel_chainOf (n : Nat) (l0 : Int32) (l1 : Int32) (l2 : Int32) (l3 : Int32) (M : PM) : qO :=
  iR ((((((((((l0 * (31 : Int32)) + l1) + (1 : Int32)) * (31 : Int32)) + l2) + (1 : Int32)) * (31 : Int32)) + l3) + (1 : Int32)) &&& (2147483647 : Int32)) (1021 : Int32) (fun v1 =>
  some (.inl (some (.int v1)), M))
set_option maxHeartbeats 4000000 in
set_option maxRecDepth 100000 in
theorem E_XModel_chainOf {g : qG} {X : qX} {Z : qZ} (hn : 0 ≤ zn Z) (hl : 0 ≤ zl Z) {n : Nat} {l0 : Int32} {l1 : Int32} {l2 : Int32} {l3 : Int32} {M : PM} (h : F_XModel_chainOf n l0 l1 l2 l3 M = some (zr Z, zf Z)) : EW Y_XModel_chainOf g X Z 0 [(0, .int l0), (1, .int l1), (2, .int l2), (3, .int l3)] [] M := by
  unfold F_XModel_chainOf at h
  refine ew_iload_n 0 d_XModel_chainOf_0 rfl rfl ?_
  refine ew_bipush (31) d_XModel_chainOf_1 (by decide +kernel) ?_
  refine ew_imul d_XModel_chainOf_3 ?_
  refine ew_iload_n 1 d_XModel_chainOf_4 rfl rfl ?_
  refine ew_iadd d_XModel_chainOf_5 ?_
  refine ew_iconst (1) d_XModel_chainOf_6 (by decide) ?_
  refine ew_iadd d_XModel_chainOf_7 ?_
  refine ew_bipush (31) d_XModel_chainOf_8 (by decide +kernel) ?_
  refine ew_imul d_XModel_chainOf_10 ?_
  refine ew_iload_n 2 d_XModel_chainOf_11 rfl rfl ?_
  refine ew_iadd d_XModel_chainOf_12 ?_
  refine ew_iconst (1) d_XModel_chainOf_13 (by decide) ?_
  refine ew_iadd d_XModel_chainOf_14 ?_
  refine ew_bipush (31) d_XModel_chainOf_15 (by decide +kernel) ?_
  refine ew_imul d_XModel_chainOf_17 ?_
  refine ew_iload_n 3 d_XModel_chainOf_18 rfl rfl ?_
  refine ew_iadd d_XModel_chainOf_19 ?_
  refine ew_iconst (1) d_XModel_chainOf_20 (by decide) ?_
  refine ew_iadd d_XModel_chainOf_21 ?_
  refine ew_ldc (2147483647) d_XModel_chainOf_22 ct_XModel_90 ?_
  refine ew_iand d_XModel_chainOf_24 ?_
  refine ew_sipush (1021) d_XModel_chainOf_25 (by decide +kernel) ?_
  obtain ⟨v1, av1, ev1, h⟩ := iR_inv h
  refine ew_irem d_XModel_chainOf_28 av1 ev1 ?_
  obtain ⟨hz, hm⟩ := Prod.mk.inj (Option.some.inj h)
  exact ew_ireturn d_XModel_chainOf_29 rfl hz.symm hm.symm
theorem T_XModel_chainOf {n : Nat} {l0 : Int32} {l1 : Int32} {l2 : Int32} {l3 : Int32} {M Mf : PM} {res : qRs} (h : F_XModel_chainOf n l0 l1 l2 l3 M = some (res, Mf)) : CT Y_XModel_chainOf 0 0 [.int l0, .int l1, .int l2, .int l3] M res Mf :=
  CT_of (by decide) (Nat.le_of_ble_eq_true rfl) (qHd_ne (by decide)) (fun g X ad0 => E_XModel_chainOf (g := g) (X := X) (Z := (ad0, M, res, Mf, 0, 0)) (Nat.le_refl _) (Nat.le_refl _) h)
theorem d_XModel_link_0 : decode Y_XModel_link.2.1 0 = .ok (.aload_n 0, 1) := by decide +kernel
theorem d_XModel_link_1 : decode Y_XModel_link.2.1 1 = .ok (.getfield 13, 3) := by decide +kernel
theorem d_XModel_link_4 : decode Y_XModel_link.2.1 4 = .ok (.iload_n 1, 1) := by decide +kernel
theorem d_XModel_link_5 : decode Y_XModel_link.2.1 5 = .ok (.iaload, 1) := by decide +kernel
theorem d_XModel_link_6 : decode Y_XModel_link.2.1 6 = .ok (.aload_n 0, 1) := by decide +kernel
theorem d_XModel_link_7 : decode Y_XModel_link.2.1 7 = .ok (.getfield 17, 3) := by decide +kernel
theorem d_XModel_link_10 : decode Y_XModel_link.2.1 10 = .ok (.iload_n 1, 1) := by decide +kernel
theorem d_XModel_link_11 : decode Y_XModel_link.2.1 11 = .ok (.iaload, 1) := by decide +kernel
theorem d_XModel_link_12 : decode Y_XModel_link.2.1 12 = .ok (.aload_n 0, 1) := by decide +kernel
theorem d_XModel_link_13 : decode Y_XModel_link.2.1 13 = .ok (.getfield 20, 3) := by decide +kernel
theorem d_XModel_link_16 : decode Y_XModel_link.2.1 16 = .ok (.iload_n 1, 1) := by decide +kernel
theorem d_XModel_link_17 : decode Y_XModel_link.2.1 17 = .ok (.iaload, 1) := by decide +kernel
theorem d_XModel_link_18 : decode Y_XModel_link.2.1 18 = .ok (.aload_n 0, 1) := by decide +kernel
theorem d_XModel_link_19 : decode Y_XModel_link.2.1 19 = .ok (.getfield 23, 3) := by decide +kernel
theorem d_XModel_link_22 : decode Y_XModel_link.2.1 22 = .ok (.iload_n 1, 1) := by decide +kernel
theorem d_XModel_link_23 : decode Y_XModel_link.2.1 23 = .ok (.iaload, 1) := by decide +kernel
theorem d_XModel_link_24 : decode Y_XModel_link.2.1 24 = .ok (.invokestatic 91, 3) := by decide +kernel
theorem d_XModel_link_27 : decode Y_XModel_link.2.1 27 = .ok (.istore_n 2, 1) := by decide +kernel
theorem d_XModel_link_28 : decode Y_XModel_link.2.1 28 = .ok (.aload_n 0, 1) := by decide +kernel
theorem d_XModel_link_29 : decode Y_XModel_link.2.1 29 = .ok (.getfield 29, 3) := by decide +kernel
theorem d_XModel_link_32 : decode Y_XModel_link.2.1 32 = .ok (.iload_n 1, 1) := by decide +kernel
theorem d_XModel_link_33 : decode Y_XModel_link.2.1 33 = .ok (.aload_n 0, 1) := by decide +kernel
theorem d_XModel_link_34 : decode Y_XModel_link.2.1 34 = .ok (.getfield 26, 3) := by decide +kernel
theorem d_XModel_link_37 : decode Y_XModel_link.2.1 37 = .ok (.iload_n 2, 1) := by decide +kernel
theorem d_XModel_link_38 : decode Y_XModel_link.2.1 38 = .ok (.iaload, 1) := by decide +kernel
theorem d_XModel_link_39 : decode Y_XModel_link.2.1 39 = .ok (.iastore, 1) := by decide +kernel
theorem d_XModel_link_40 : decode Y_XModel_link.2.1 40 = .ok (.aload_n 0, 1) := by decide +kernel
theorem d_XModel_link_41 : decode Y_XModel_link.2.1 41 = .ok (.getfield 26, 3) := by decide +kernel
theorem d_XModel_link_44 : decode Y_XModel_link.2.1 44 = .ok (.iload_n 2, 1) := by decide +kernel
theorem d_XModel_link_45 : decode Y_XModel_link.2.1 45 = .ok (.iload_n 1, 1) := by decide +kernel
theorem d_XModel_link_46 : decode Y_XModel_link.2.1 46 = .ok (.iastore, 1) := by decide +kernel
theorem d_XModel_link_47 : decode Y_XModel_link.2.1 47 = .ok (.return_, 1) := by decide +kernel
def F_XModel_link (n : Nat) (l0 : Nat) (l1 : Int32) (M : PM) : qO :=
  gR 0 M l0 3 (fun v1 =>
  lI M v1 l1 (fun v2 =>
  gR 0 M l0 4 (fun v3 =>
  lI M v3 l1 (fun v4 =>
  gR 0 M l0 5 (fun v5 =>
  lI M v5 l1 (fun v6 =>
  gR 0 M l0 6 (fun v7 =>
  lI M v7 l1 (fun v8 =>
  cI (F_XModel_chainOf n v2 v4 v6 v8 M) (fun v10 M9 =>
  gR 0 M9 l0 8 (fun v11 =>
  gR 0 M9 l0 7 (fun v12 =>
  lI M9 v12 v10 (fun v13 =>
  wI M9 v11 l1 v13 (fun M14 =>
  gR 0 M14 l0 7 (fun v15 =>
  wI M14 v15 v10 l1 (fun M16 =>
  some (.inl none, M16))))))))))))))))
set_option maxHeartbeats 4000000 in
set_option maxRecDepth 100000 in
theorem E_XModel_link {g : qG} {X : qX} {Z : qZ} (hn : 1 ≤ zn Z) (hl : 23 ≤ zl Z) {n : Nat} {l0 : Nat} {l1 : Int32} {M : PM} (h : F_XModel_link n l0 l1 M = some (zr Z, zf Z)) : EW Y_XModel_link g X Z 0 [(0, .ref l0), (1, .int l1)] [] M := by
  unfold F_XModel_link at h
  refine ew_aload_n 0 d_XModel_link_0 rfl rfl ?_
  obtain ⟨v1, av1, bv1, h⟩ := gR_inv h
  refine ew_gR 0 3 d_XModel_link_1 fl_XModel_13 av1 bv1 ?_
  refine ew_iload_n 1 d_XModel_link_4 rfl rfl ?_
  obtain ⟨v2, av2, bv2, cv2, ev2, h⟩ := lI_inv h
  refine ew_lI d_XModel_link_5 av2 bv2 cv2 ev2 ?_
  refine ew_aload_n 0 d_XModel_link_6 rfl rfl ?_
  obtain ⟨v3, av3, bv3, h⟩ := gR_inv h
  refine ew_gR 0 4 d_XModel_link_7 fl_XModel_17 av3 bv3 ?_
  refine ew_iload_n 1 d_XModel_link_10 rfl rfl ?_
  obtain ⟨v4, av4, bv4, cv4, ev4, h⟩ := lI_inv h
  refine ew_lI d_XModel_link_11 av4 bv4 cv4 ev4 ?_
  refine ew_aload_n 0 d_XModel_link_12 rfl rfl ?_
  obtain ⟨v5, av5, bv5, h⟩ := gR_inv h
  refine ew_gR 0 5 d_XModel_link_13 fl_XModel_20 av5 bv5 ?_
  refine ew_iload_n 1 d_XModel_link_16 rfl rfl ?_
  obtain ⟨v6, av6, bv6, cv6, ev6, h⟩ := lI_inv h
  refine ew_lI d_XModel_link_17 av6 bv6 cv6 ev6 ?_
  refine ew_aload_n 0 d_XModel_link_18 rfl rfl ?_
  obtain ⟨v7, av7, bv7, h⟩ := gR_inv h
  refine ew_gR 0 6 d_XModel_link_19 fl_XModel_23 av7 bv7 ?_
  refine ew_iload_n 1 d_XModel_link_22 rfl rfl ?_
  obtain ⟨v8, av8, bv8, cv8, ev8, h⟩ := lI_inv h
  refine ew_lI d_XModel_link_23 av8 bv8 cv8 ev8 ?_
  obtain ⟨v10, M9, hM9, h⟩ := cI_inv h
  refine ew_callS [.int v2, .int v4, .int v6, .int v8] d_XModel_link_24 cs_XModel_91 (T_XModel_chainOf hM9) (Nat.le_trans (Nat.le_of_ble_eq_true rfl) hn) (Nat.le_trans (Nat.le_of_ble_eq_true rfl) hl) (Nat.le_of_ble_eq_true rfl) rfl rfl ?_
  refine ew_istore_n (L' := [(0, .ref l0), (1, .int l1), (2, .int v10)]) 2 [1, 2, 0] d_XModel_link_27 rfl (by decide) rfl ?_
  refine ew_aload_n 0 d_XModel_link_28 rfl rfl ?_
  obtain ⟨v11, av11, bv11, h⟩ := gR_inv h
  refine ew_gR 0 8 d_XModel_link_29 fl_XModel_29 av11 bv11 ?_
  refine ew_iload_n 1 d_XModel_link_32 rfl rfl ?_
  refine ew_aload_n 0 d_XModel_link_33 rfl rfl ?_
  obtain ⟨v12, av12, bv12, h⟩ := gR_inv h
  refine ew_gR 0 7 d_XModel_link_34 fl_XModel_26 av12 bv12 ?_
  refine ew_iload_n 2 d_XModel_link_37 rfl rfl ?_
  obtain ⟨v13, av13, bv13, cv13, ev13, h⟩ := lI_inv h
  refine ew_lI d_XModel_link_38 av13 bv13 cv13 ev13 ?_
  obtain ⟨M14, aM14, bM14, cM14, eM14, h⟩ := wI_inv h
  refine ew_wI d_XModel_link_39 aM14 bM14 cM14 eM14 ?_
  refine ew_aload_n 0 d_XModel_link_40 rfl rfl ?_
  obtain ⟨v15, av15, bv15, h⟩ := gR_inv h
  refine ew_gR 0 7 d_XModel_link_41 fl_XModel_26 av15 bv15 ?_
  refine ew_iload_n 2 d_XModel_link_44 rfl rfl ?_
  refine ew_iload_n 1 d_XModel_link_45 rfl rfl ?_
  obtain ⟨M16, aM16, bM16, cM16, eM16, h⟩ := wI_inv h
  refine ew_wI d_XModel_link_46 aM16 bM16 cM16 eM16 ?_
  obtain ⟨hz, hm⟩ := Prod.mk.inj (Option.some.inj h)
  exact ew_return d_XModel_link_47 rfl hz.symm hm.symm
theorem T_XModel_link {n : Nat} {l0 : Nat} {l1 : Int32} {M Mf : PM} {res : qRs} (h : F_XModel_link n l0 l1 M = some (res, Mf)) : CT Y_XModel_link 1 23 [.ref l0, .int l1] M res Mf :=
  CT_of (by decide) (Nat.le_of_ble_eq_true rfl) (qHd_ne (by decide)) (fun g X ad0 => E_XModel_link (g := g) (X := X) (Z := (ad0, M, res, Mf, 1, 23)) (Nat.le_refl _) (Nat.le_refl _) h)
theorem d_XModel_begin_0 : decode Y_XModel_begin.2.1 0 = .ok (.iconst 0, 1) := by decide +kernel
theorem d_XModel_begin_1 : decode Y_XModel_begin.2.1 1 = .ok (.istore_n 1, 1) := by decide +kernel
theorem d_XModel_begin_2 : decode Y_XModel_begin.2.1 2 = .ok (.iload_n 1, 1) := by decide +kernel
theorem d_XModel_begin_3 : decode Y_XModel_begin.2.1 3 = .ok (.sipush (1021), 3) := by decide +kernel
theorem d_XModel_begin_6 : decode Y_XModel_begin.2.1 6 = .ok (.if_icmp .ge (16), 3) := by decide +kernel
theorem d_XModel_begin_9 : decode Y_XModel_begin.2.1 9 = .ok (.aload_n 0, 1) := by decide +kernel
theorem d_XModel_begin_10 : decode Y_XModel_begin.2.1 10 = .ok (.getfield 26, 3) := by decide +kernel
theorem d_XModel_begin_13 : decode Y_XModel_begin.2.1 13 = .ok (.iload_n 1, 1) := by decide +kernel
theorem d_XModel_begin_14 : decode Y_XModel_begin.2.1 14 = .ok (.iconst (-1), 1) := by decide +kernel
theorem d_XModel_begin_15 : decode Y_XModel_begin.2.1 15 = .ok (.iastore, 1) := by decide +kernel
theorem d_XModel_begin_16 : decode Y_XModel_begin.2.1 16 = .ok (.iinc 1 (1), 3) := by decide +kernel
theorem d_XModel_begin_19 : decode Y_XModel_begin.2.1 19 = .ok (.goto (-17), 3) := by decide +kernel
theorem d_XModel_begin_22 : decode Y_XModel_begin.2.1 22 = .ok (.aload_n 0, 1) := by decide +kernel
theorem d_XModel_begin_23 : decode Y_XModel_begin.2.1 23 = .ok (.aload_n 0, 1) := by decide +kernel
theorem d_XModel_begin_24 : decode Y_XModel_begin.2.1 24 = .ok (.getfield 7, 3) := by decide +kernel
theorem d_XModel_begin_27 : decode Y_XModel_begin.2.1 27 = .ok (.putfield 81, 3) := by decide +kernel
theorem d_XModel_begin_30 : decode Y_XModel_begin.2.1 30 = .ok (.iconst 0, 1) := by decide +kernel
theorem d_XModel_begin_31 : decode Y_XModel_begin.2.1 31 = .ok (.istore_n 1, 1) := by decide +kernel
theorem d_XModel_begin_32 : decode Y_XModel_begin.2.1 32 = .ok (.iload_n 1, 1) := by decide +kernel
theorem d_XModel_begin_33 : decode Y_XModel_begin.2.1 33 = .ok (.aload_n 0, 1) := by decide +kernel
theorem d_XModel_begin_34 : decode Y_XModel_begin.2.1 34 = .ok (.getfield 7, 3) := by decide +kernel
theorem d_XModel_begin_37 : decode Y_XModel_begin.2.1 37 = .ok (.if_icmp .ge (14), 3) := by decide +kernel
theorem d_XModel_begin_40 : decode Y_XModel_begin.2.1 40 = .ok (.aload_n 0, 1) := by decide +kernel
theorem d_XModel_begin_41 : decode Y_XModel_begin.2.1 41 = .ok (.iload_n 1, 1) := by decide +kernel
theorem d_XModel_begin_42 : decode Y_XModel_begin.2.1 42 = .ok (.invokevirtual 95, 3) := by decide +kernel
theorem d_XModel_begin_45 : decode Y_XModel_begin.2.1 45 = .ok (.iinc 1 (1), 3) := by decide +kernel
theorem d_XModel_begin_48 : decode Y_XModel_begin.2.1 48 = .ok (.goto (-16), 3) := by decide +kernel
theorem d_XModel_begin_51 : decode Y_XModel_begin.2.1 51 = .ok (.return_, 1) := by decide +kernel
def F_XModel_begin_32 (n : Nat) : Nat → Nat → Int32 → PM → qO
  | 0, _, _, _ => none
  | f + 1, l0, l1, M =>
    gI 0 M l0 1 (fun v1 =>
    if v1 ≤ l1 then
      some (.inl none, M)
    else
      kO 0 M l0 (
      cV (F_XModel_link n l0 l1 M) (fun M3 =>
      bI (l1 + (1 : Int32)) (fun v4 =>
      (F_XModel_begin_32 n f) l0 v4 M3))))
set_option maxHeartbeats 4000000 in
set_option maxRecDepth 100000 in
theorem E_XModel_begin_32 {g : qG} {X : qX} {Z : qZ} (hn : 2 ≤ zn Z) (hl : 45 ≤ zl Z) {n : Nat} : ∀ (f : Nat) (l0 : Nat) (l1 : Int32) (M : PM), F_XModel_begin_32 n f l0 l1 M = some (zr Z, zf Z) → EW Y_XModel_begin g X Z 32 [(0, .ref l0), (1, .int l1)] [] M := by
  intro f
  induction f with
  | zero => intro l0 l1 M h; rw [F_XModel_begin_32] at h; cases h
  | succ f ih =>
    intro l0 l1 M h
    rw [F_XModel_begin_32] at h
    refine ew_iload_n 1 d_XModel_begin_32 rfl rfl ?_
    refine ew_aload_n 0 d_XModel_begin_33 rfl rfl ?_
    obtain ⟨v1, av1, bv1, h⟩ := gI_inv h
    refine ew_gI 0 1 d_XModel_begin_34 fl_XModel_7 av1 bv1 ?_
    refine ew_icmp_ge 51 d_XModel_begin_37 (by decide) (fun c2 => ?_) (fun c2 => ?_)
    · rw [if_pos c2] at h
      obtain ⟨hz, hm⟩ := Prod.mk.inj (Option.some.inj h)
      exact ew_return d_XModel_begin_51 rfl hz.symm hm.symm
    · rw [if_neg c2] at h
      refine ew_aload_n 0 d_XModel_begin_40 rfl rfl ?_
      refine ew_iload_n 1 d_XModel_begin_41 rfl rfl ?_
      obtain ⟨kM3, h⟩ := kO_inv h
      obtain ⟨M3, hM3, h⟩ := cV_inv h
      refine ew_callV 0 [.int l1] d_XModel_begin_42 cv_XModel_95 (T_XModel_link hM3) kM3 (Nat.le_trans (Nat.le_of_ble_eq_true rfl) hn) (Nat.le_trans (Nat.le_of_ble_eq_true rfl) hl) (Nat.le_of_ble_eq_true rfl) rfl rfl ?_
      obtain ⟨v4, ev4, h⟩ := bI_inv h
      refine ew_iinc (L' := [(0, .ref l0), (1, .int v4)]) v4 [1, 0] d_XModel_begin_45 rfl (by rw [ev4]; rfl) (by decide) rfl ?_
      refine ew_goto 32 d_XModel_begin_48 (by decide) ?_
      exact ih l0 v4 M3 h
def F_XModel_begin_2 (n : Nat) : Nat → Nat → Int32 → PM → qO
  | 0, _, _, _ => none
  | f + 1, l0, l1, M =>
    if (1021 : Int32) ≤ l1 then
      gI 0 M l0 1 (fun v2 =>
      pF 0 M l0 2 (.int v2) (fun M3 =>
      F_XModel_begin_32 n n l0 (0 : Int32) M3))
    else
      gR 0 M l0 7 (fun v4 =>
      wI M v4 l1 (-1 : Int32) (fun M5 =>
      bI (l1 + (1 : Int32)) (fun v6 =>
      (F_XModel_begin_2 n f) l0 v6 M5)))
set_option maxHeartbeats 4000000 in
set_option maxRecDepth 100000 in
theorem E_XModel_begin_2 {g : qG} {X : qX} {Z : qZ} (hn : 2 ≤ zn Z) (hl : 45 ≤ zl Z) {n : Nat} : ∀ (f : Nat) (l0 : Nat) (l1 : Int32) (M : PM), F_XModel_begin_2 n f l0 l1 M = some (zr Z, zf Z) → EW Y_XModel_begin g X Z 2 [(0, .ref l0), (1, .int l1)] [] M := by
  intro f
  induction f with
  | zero => intro l0 l1 M h; rw [F_XModel_begin_2] at h; cases h
  | succ f ih =>
    intro l0 l1 M h
    rw [F_XModel_begin_2] at h
    refine ew_iload_n 1 d_XModel_begin_2 rfl rfl ?_
    refine ew_sipush (1021) d_XModel_begin_3 (by decide +kernel) ?_
    refine ew_icmp_ge 22 d_XModel_begin_6 (by decide) (fun c1 => ?_) (fun c1 => ?_)
    · rw [if_pos c1] at h
      refine ew_aload_n 0 d_XModel_begin_22 rfl rfl ?_
      refine ew_aload_n 0 d_XModel_begin_23 rfl rfl ?_
      obtain ⟨v2, av2, bv2, h⟩ := gI_inv h
      refine ew_gI 0 1 d_XModel_begin_24 fl_XModel_7 av2 bv2 ?_
      obtain ⟨M3, aM3, eM3, h⟩ := pF_inv h
      refine ew_pF 0 2 d_XModel_begin_27 fl_XModel_81 aM3 eM3 (fun ad => ⟨rfl, rfl⟩) ?_
      refine ew_iconst (0) d_XModel_begin_30 (by decide) ?_
      refine ew_istore_n (L' := [(0, .ref l0), (1, .int (0 : Int32))]) 1 [1, 0] d_XModel_begin_31 rfl (by decide) rfl ?_
      exact E_XModel_begin_32 hn hl n l0 (0 : Int32) M3 h
    · rw [if_neg c1] at h
      refine ew_aload_n 0 d_XModel_begin_9 rfl rfl ?_
      obtain ⟨v4, av4, bv4, h⟩ := gR_inv h
      refine ew_gR 0 7 d_XModel_begin_10 fl_XModel_26 av4 bv4 ?_
      refine ew_iload_n 1 d_XModel_begin_13 rfl rfl ?_
      refine ew_iconst (-1) d_XModel_begin_14 (by decide) ?_
      obtain ⟨M5, aM5, bM5, cM5, eM5, h⟩ := wI_inv h
      refine ew_wI d_XModel_begin_15 aM5 bM5 cM5 eM5 ?_
      obtain ⟨v6, ev6, h⟩ := bI_inv h
      refine ew_iinc (L' := [(0, .ref l0), (1, .int v6)]) v6 [1, 0] d_XModel_begin_16 rfl (by rw [ev6]; rfl) (by decide) rfl ?_
      refine ew_goto 2 d_XModel_begin_19 (by decide) ?_
      exact ih l0 v6 M5 h
def F_XModel_begin (n : Nat) (l0 : Nat) (M : PM) : qO :=
  F_XModel_begin_2 n n l0 (0 : Int32) M
set_option maxHeartbeats 4000000 in
set_option maxRecDepth 100000 in
theorem E_XModel_begin {g : qG} {X : qX} {Z : qZ} (hn : 2 ≤ zn Z) (hl : 45 ≤ zl Z) {n : Nat} {l0 : Nat} {M : PM} (h : F_XModel_begin n l0 M = some (zr Z, zf Z)) : EW Y_XModel_begin g X Z 0 [(0, .ref l0)] [] M := by
  unfold F_XModel_begin at h
  refine ew_iconst (0) d_XModel_begin_0 (by decide) ?_
  refine ew_istore_n (L' := [(0, .ref l0), (1, .int (0 : Int32))]) 1 [1, 0] d_XModel_begin_1 rfl (by decide) rfl ?_
  exact E_XModel_begin_2 hn hl n l0 (0 : Int32) M h
theorem T_XModel_begin {n : Nat} {l0 : Nat} {M Mf : PM} {res : qRs} (h : F_XModel_begin n l0 M = some (res, Mf)) : CT Y_XModel_begin 2 45 [.ref l0] M res Mf :=
  CT_of (by decide) (Nat.le_of_ble_eq_true rfl) (qHd_ne (by decide)) (fun g X ad0 => E_XModel_begin (g := g) (X := X) (Z := (ad0, M, res, Mf, 2, 45)) (Nat.le_refl _) (Nat.le_refl _) h)
theorem d_XModel_init_0 : decode Y_XModel_init.2.1 0 = .ok (.aload_n 0, 1) := by decide +kernel
theorem d_XModel_init_1 : decode Y_XModel_init.2.1 1 = .ok (.invokespecial 1, 3) := by decide +kernel
theorem d_XModel_init_4 : decode Y_XModel_init.2.1 4 = .ok (.aload_n 0, 1) := by decide +kernel
theorem d_XModel_init_5 : decode Y_XModel_init.2.1 5 = .ok (.iconst 3, 1) := by decide +kernel
theorem d_XModel_init_6 : decode Y_XModel_init.2.1 6 = .ok (.putfield 7, 3) := by decide +kernel
theorem d_XModel_init_9 : decode Y_XModel_init.2.1 9 = .ok (.aload_n 0, 1) := by decide +kernel
theorem d_XModel_init_10 : decode Y_XModel_init.2.1 10 = .ok (.sipush (6400), 3) := by decide +kernel
theorem d_XModel_init_13 : decode Y_XModel_init.2.1 13 = .ok (.newarray .int, 2) := by decide +kernel
theorem d_XModel_init_15 : decode Y_XModel_init.2.1 15 = .ok (.putfield 13, 3) := by decide +kernel
theorem d_XModel_init_18 : decode Y_XModel_init.2.1 18 = .ok (.aload_n 0, 1) := by decide +kernel
theorem d_XModel_init_19 : decode Y_XModel_init.2.1 19 = .ok (.sipush (6400), 3) := by decide +kernel
theorem d_XModel_init_22 : decode Y_XModel_init.2.1 22 = .ok (.newarray .int, 2) := by decide +kernel
theorem d_XModel_init_24 : decode Y_XModel_init.2.1 24 = .ok (.putfield 17, 3) := by decide +kernel
theorem d_XModel_init_27 : decode Y_XModel_init.2.1 27 = .ok (.aload_n 0, 1) := by decide +kernel
theorem d_XModel_init_28 : decode Y_XModel_init.2.1 28 = .ok (.sipush (6400), 3) := by decide +kernel
theorem d_XModel_init_31 : decode Y_XModel_init.2.1 31 = .ok (.newarray .int, 2) := by decide +kernel
theorem d_XModel_init_33 : decode Y_XModel_init.2.1 33 = .ok (.putfield 20, 3) := by decide +kernel
theorem d_XModel_init_36 : decode Y_XModel_init.2.1 36 = .ok (.aload_n 0, 1) := by decide +kernel
theorem d_XModel_init_37 : decode Y_XModel_init.2.1 37 = .ok (.sipush (6400), 3) := by decide +kernel
theorem d_XModel_init_40 : decode Y_XModel_init.2.1 40 = .ok (.newarray .int, 2) := by decide +kernel
theorem d_XModel_init_42 : decode Y_XModel_init.2.1 42 = .ok (.putfield 23, 3) := by decide +kernel
theorem d_XModel_init_45 : decode Y_XModel_init.2.1 45 = .ok (.aload_n 0, 1) := by decide +kernel
theorem d_XModel_init_46 : decode Y_XModel_init.2.1 46 = .ok (.sipush (1021), 3) := by decide +kernel
theorem d_XModel_init_49 : decode Y_XModel_init.2.1 49 = .ok (.newarray .int, 2) := by decide +kernel
theorem d_XModel_init_51 : decode Y_XModel_init.2.1 51 = .ok (.putfield 26, 3) := by decide +kernel
theorem d_XModel_init_54 : decode Y_XModel_init.2.1 54 = .ok (.aload_n 0, 1) := by decide +kernel
theorem d_XModel_init_55 : decode Y_XModel_init.2.1 55 = .ok (.sipush (6400), 3) := by decide +kernel
theorem d_XModel_init_58 : decode Y_XModel_init.2.1 58 = .ok (.newarray .int, 2) := by decide +kernel
theorem d_XModel_init_60 : decode Y_XModel_init.2.1 60 = .ok (.putfield 29, 3) := by decide +kernel
theorem d_XModel_init_63 : decode Y_XModel_init.2.1 63 = .ok (.aload_n 0, 1) := by decide +kernel
theorem d_XModel_init_64 : decode Y_XModel_init.2.1 64 = .ok (.bipush (16), 2) := by decide +kernel
theorem d_XModel_init_66 : decode Y_XModel_init.2.1 66 = .ok (.newarray .int, 2) := by decide +kernel
theorem d_XModel_init_68 : decode Y_XModel_init.2.1 68 = .ok (.putfield 32, 3) := by decide +kernel
theorem d_XModel_init_71 : decode Y_XModel_init.2.1 71 = .ok (.aload_n 0, 1) := by decide +kernel
theorem d_XModel_init_72 : decode Y_XModel_init.2.1 72 = .ok (.bipush (16), 2) := by decide +kernel
theorem d_XModel_init_74 : decode Y_XModel_init.2.1 74 = .ok (.newarray .int, 2) := by decide +kernel
theorem d_XModel_init_76 : decode Y_XModel_init.2.1 76 = .ok (.putfield 35, 3) := by decide +kernel
theorem d_XModel_init_79 : decode Y_XModel_init.2.1 79 = .ok (.aload_n 0, 1) := by decide +kernel
theorem d_XModel_init_80 : decode Y_XModel_init.2.1 80 = .ok (.bipush (16), 2) := by decide +kernel
theorem d_XModel_init_82 : decode Y_XModel_init.2.1 82 = .ok (.newarray .boolean, 2) := by decide +kernel
theorem d_XModel_init_84 : decode Y_XModel_init.2.1 84 = .ok (.putfield 38, 3) := by decide +kernel
theorem d_XModel_init_87 : decode Y_XModel_init.2.1 87 = .ok (.aload_n 0, 1) := by decide +kernel
theorem d_XModel_init_88 : decode Y_XModel_init.2.1 88 = .ok (.bipush (16), 2) := by decide +kernel
theorem d_XModel_init_90 : decode Y_XModel_init.2.1 90 = .ok (.newarray .int, 2) := by decide +kernel
theorem d_XModel_init_92 : decode Y_XModel_init.2.1 92 = .ok (.putfield 42, 3) := by decide +kernel
theorem d_XModel_init_95 : decode Y_XModel_init.2.1 95 = .ok (.aload_n 0, 1) := by decide +kernel
theorem d_XModel_init_96 : decode Y_XModel_init.2.1 96 = .ok (.bipush (16), 2) := by decide +kernel
theorem d_XModel_init_98 : decode Y_XModel_init.2.1 98 = .ok (.newarray .boolean, 2) := by decide +kernel
theorem d_XModel_init_100 : decode Y_XModel_init.2.1 100 = .ok (.putfield 45, 3) := by decide +kernel
theorem d_XModel_init_103 : decode Y_XModel_init.2.1 103 = .ok (.aload_n 0, 1) := by decide +kernel
theorem d_XModel_init_104 : decode Y_XModel_init.2.1 104 = .ok (.bipush (8), 2) := by decide +kernel
theorem d_XModel_init_106 : decode Y_XModel_init.2.1 106 = .ok (.newarray .int, 2) := by decide +kernel
theorem d_XModel_init_108 : decode Y_XModel_init.2.1 108 = .ok (.putfield 48, 3) := by decide +kernel
theorem d_XModel_init_111 : decode Y_XModel_init.2.1 111 = .ok (.aload_n 0, 1) := by decide +kernel
theorem d_XModel_init_112 : decode Y_XModel_init.2.1 112 = .ok (.sipush (300), 3) := by decide +kernel
theorem d_XModel_init_115 : decode Y_XModel_init.2.1 115 = .ok (.newarray .int, 2) := by decide +kernel
theorem d_XModel_init_117 : decode Y_XModel_init.2.1 117 = .ok (.putfield 51, 3) := by decide +kernel
theorem d_XModel_init_120 : decode Y_XModel_init.2.1 120 = .ok (.aload_n 0, 1) := by decide +kernel
theorem d_XModel_init_121 : decode Y_XModel_init.2.1 121 = .ok (.bipush (16), 2) := by decide +kernel
theorem d_XModel_init_123 : decode Y_XModel_init.2.1 123 = .ok (.newarray .int, 2) := by decide +kernel
theorem d_XModel_init_125 : decode Y_XModel_init.2.1 125 = .ok (.putfield 54, 3) := by decide +kernel
theorem d_XModel_init_128 : decode Y_XModel_init.2.1 128 = .ok (.aload_n 0, 1) := by decide +kernel
theorem d_XModel_init_129 : decode Y_XModel_init.2.1 129 = .ok (.bipush (16), 2) := by decide +kernel
theorem d_XModel_init_131 : decode Y_XModel_init.2.1 131 = .ok (.newarray .int, 2) := by decide +kernel
theorem d_XModel_init_133 : decode Y_XModel_init.2.1 133 = .ok (.putfield 57, 3) := by decide +kernel
theorem d_XModel_init_136 : decode Y_XModel_init.2.1 136 = .ok (.aload_n 0, 1) := by decide +kernel
theorem d_XModel_init_137 : decode Y_XModel_init.2.1 137 = .ok (.bipush (16), 2) := by decide +kernel
theorem d_XModel_init_139 : decode Y_XModel_init.2.1 139 = .ok (.newarray .int, 2) := by decide +kernel
theorem d_XModel_init_141 : decode Y_XModel_init.2.1 141 = .ok (.putfield 60, 3) := by decide +kernel
theorem d_XModel_init_144 : decode Y_XModel_init.2.1 144 = .ok (.aload_n 0, 1) := by decide +kernel
theorem d_XModel_init_145 : decode Y_XModel_init.2.1 145 = .ok (.sipush (6400), 3) := by decide +kernel
theorem d_XModel_init_148 : decode Y_XModel_init.2.1 148 = .ok (.newarray .boolean, 2) := by decide +kernel
theorem d_XModel_init_150 : decode Y_XModel_init.2.1 150 = .ok (.putfield 63, 3) := by decide +kernel
theorem d_XModel_init_153 : decode Y_XModel_init.2.1 153 = .ok (.aload_n 0, 1) := by decide +kernel
theorem d_XModel_init_154 : decode Y_XModel_init.2.1 154 = .ok (.sipush (6400), 3) := by decide +kernel
theorem d_XModel_init_157 : decode Y_XModel_init.2.1 157 = .ok (.newarray .int, 2) := by decide +kernel
theorem d_XModel_init_159 : decode Y_XModel_init.2.1 159 = .ok (.putfield 66, 3) := by decide +kernel
theorem d_XModel_init_162 : decode Y_XModel_init.2.1 162 = .ok (.aload_n 0, 1) := by decide +kernel
theorem d_XModel_init_163 : decode Y_XModel_init.2.1 163 = .ok (.bipush (7), 2) := by decide +kernel
theorem d_XModel_init_165 : decode Y_XModel_init.2.1 165 = .ok (.newarray .int, 2) := by decide +kernel
theorem d_XModel_init_167 : decode Y_XModel_init.2.1 167 = .ok (.putfield 69, 3) := by decide +kernel
theorem d_XModel_init_170 : decode Y_XModel_init.2.1 170 = .ok (.aload_n 0, 1) := by decide +kernel
theorem d_XModel_init_171 : decode Y_XModel_init.2.1 171 = .ok (.bipush (7), 2) := by decide +kernel
theorem d_XModel_init_173 : decode Y_XModel_init.2.1 173 = .ok (.newarray .int, 2) := by decide +kernel
theorem d_XModel_init_175 : decode Y_XModel_init.2.1 175 = .ok (.putfield 72, 3) := by decide +kernel
theorem d_XModel_init_178 : decode Y_XModel_init.2.1 178 = .ok (.aload_n 0, 1) := by decide +kernel
theorem d_XModel_init_179 : decode Y_XModel_init.2.1 179 = .ok (.bipush (6), 2) := by decide +kernel
theorem d_XModel_init_181 : decode Y_XModel_init.2.1 181 = .ok (.newarray .int, 2) := by decide +kernel
theorem d_XModel_init_183 : decode Y_XModel_init.2.1 183 = .ok (.putfield 75, 3) := by decide +kernel
theorem d_XModel_init_186 : decode Y_XModel_init.2.1 186 = .ok (.aload_n 0, 1) := by decide +kernel
theorem d_XModel_init_187 : decode Y_XModel_init.2.1 187 = .ok (.bipush (16), 2) := by decide +kernel
theorem d_XModel_init_189 : decode Y_XModel_init.2.1 189 = .ok (.newarray .int, 2) := by decide +kernel
theorem d_XModel_init_191 : decode Y_XModel_init.2.1 191 = .ok (.putfield 78, 3) := by decide +kernel
theorem d_XModel_init_194 : decode Y_XModel_init.2.1 194 = .ok (.iconst 0, 1) := by decide +kernel
theorem d_XModel_init_195 : decode Y_XModel_init.2.1 195 = .ok (.istore_n 1, 1) := by decide +kernel
theorem d_XModel_init_196 : decode Y_XModel_init.2.1 196 = .ok (.iload_n 1, 1) := by decide +kernel
theorem d_XModel_init_197 : decode Y_XModel_init.2.1 197 = .ok (.iconst 3, 1) := by decide +kernel
theorem d_XModel_init_198 : decode Y_XModel_init.2.1 198 = .ok (.if_icmp .ge (37), 3) := by decide +kernel
theorem d_XModel_init_201 : decode Y_XModel_init.2.1 201 = .ok (.aload_n 0, 1) := by decide +kernel
theorem d_XModel_init_202 : decode Y_XModel_init.2.1 202 = .ok (.getfield 13, 3) := by decide +kernel
theorem d_XModel_init_205 : decode Y_XModel_init.2.1 205 = .ok (.iload_n 1, 1) := by decide +kernel
theorem d_XModel_init_206 : decode Y_XModel_init.2.1 206 = .ok (.iload_n 1, 1) := by decide +kernel
theorem d_XModel_init_207 : decode Y_XModel_init.2.1 207 = .ok (.iastore, 1) := by decide +kernel
theorem d_XModel_init_208 : decode Y_XModel_init.2.1 208 = .ok (.aload_n 0, 1) := by decide +kernel
theorem d_XModel_init_209 : decode Y_XModel_init.2.1 209 = .ok (.getfield 17, 3) := by decide +kernel
theorem d_XModel_init_212 : decode Y_XModel_init.2.1 212 = .ok (.iload_n 1, 1) := by decide +kernel
theorem d_XModel_init_213 : decode Y_XModel_init.2.1 213 = .ok (.iconst (-1), 1) := by decide +kernel
theorem d_XModel_init_214 : decode Y_XModel_init.2.1 214 = .ok (.iastore, 1) := by decide +kernel
theorem d_XModel_init_215 : decode Y_XModel_init.2.1 215 = .ok (.aload_n 0, 1) := by decide +kernel
theorem d_XModel_init_216 : decode Y_XModel_init.2.1 216 = .ok (.getfield 20, 3) := by decide +kernel
theorem d_XModel_init_219 : decode Y_XModel_init.2.1 219 = .ok (.iload_n 1, 1) := by decide +kernel
theorem d_XModel_init_220 : decode Y_XModel_init.2.1 220 = .ok (.iconst (-1), 1) := by decide +kernel
theorem d_XModel_init_221 : decode Y_XModel_init.2.1 221 = .ok (.iastore, 1) := by decide +kernel
theorem d_XModel_init_222 : decode Y_XModel_init.2.1 222 = .ok (.aload_n 0, 1) := by decide +kernel
theorem d_XModel_init_223 : decode Y_XModel_init.2.1 223 = .ok (.getfield 23, 3) := by decide +kernel
theorem d_XModel_init_226 : decode Y_XModel_init.2.1 226 = .ok (.iload_n 1, 1) := by decide +kernel
theorem d_XModel_init_227 : decode Y_XModel_init.2.1 227 = .ok (.iconst (-1), 1) := by decide +kernel
theorem d_XModel_init_228 : decode Y_XModel_init.2.1 228 = .ok (.iastore, 1) := by decide +kernel
theorem d_XModel_init_229 : decode Y_XModel_init.2.1 229 = .ok (.iinc 1 (1), 3) := by decide +kernel
theorem d_XModel_init_232 : decode Y_XModel_init.2.1 232 = .ok (.goto (-36), 3) := by decide +kernel
theorem d_XModel_init_235 : decode Y_XModel_init.2.1 235 = .ok (.aload_n 0, 1) := by decide +kernel
theorem d_XModel_init_236 : decode Y_XModel_init.2.1 236 = .ok (.iconst 3, 1) := by decide +kernel
theorem d_XModel_init_237 : decode Y_XModel_init.2.1 237 = .ok (.putfield 81, 3) := by decide +kernel
theorem d_XModel_init_240 : decode Y_XModel_init.2.1 240 = .ok (.aload_n 0, 1) := by decide +kernel
theorem d_XModel_init_241 : decode Y_XModel_init.2.1 241 = .ok (.invokevirtual 84, 3) := by decide +kernel
theorem d_XModel_init_244 : decode Y_XModel_init.2.1 244 = .ok (.return_, 1) := by decide +kernel
def F_XModel_init_196 (n : Nat) : Nat → Nat → Int32 → PM → qO
  | 0, _, _, _ => none
  | f + 1, l0, l1, M =>
    if (3 : Int32) ≤ l1 then
      pF 0 M l0 2 (.int (3 : Int32)) (fun M2 =>
      kO 0 M2 l0 (
      cV (F_XModel_begin n l0 M2) (fun M3 =>
      some (.inl none, M3))))
    else
      gR 0 M l0 3 (fun v4 =>
      wI M v4 l1 l1 (fun M5 =>
      gR 0 M5 l0 4 (fun v6 =>
      wI M5 v6 l1 (-1 : Int32) (fun M7 =>
      gR 0 M7 l0 5 (fun v8 =>
      wI M7 v8 l1 (-1 : Int32) (fun M9 =>
      gR 0 M9 l0 6 (fun v10 =>
      wI M9 v10 l1 (-1 : Int32) (fun M11 =>
      bI (l1 + (1 : Int32)) (fun v12 =>
      (F_XModel_init_196 n f) l0 v12 M11)))))))))
set_option maxHeartbeats 4000000 in
set_option maxRecDepth 100000 in
theorem E_XModel_init_196 {g : qG} {X : qX} {Z : qZ} (hn : 3 ≤ zn Z) (hl : 66 ≤ zl Z) {n : Nat} : ∀ (f : Nat) (l0 : Nat) (l1 : Int32) (M : PM), F_XModel_init_196 n f l0 l1 M = some (zr Z, zf Z) → EW Y_XModel_init g X Z 196 [(0, .ref l0), (1, .int l1)] [] M := by
  intro f
  induction f with
  | zero => intro l0 l1 M h; rw [F_XModel_init_196] at h; cases h
  | succ f ih =>
    intro l0 l1 M h
    rw [F_XModel_init_196] at h
    refine ew_iload_n 1 d_XModel_init_196 rfl rfl ?_
    refine ew_iconst (3) d_XModel_init_197 (by decide) ?_
    refine ew_icmp_ge 235 d_XModel_init_198 (by decide) (fun c1 => ?_) (fun c1 => ?_)
    · rw [if_pos c1] at h
      refine ew_aload_n 0 d_XModel_init_235 rfl rfl ?_
      refine ew_iconst (3) d_XModel_init_236 (by decide) ?_
      obtain ⟨M2, aM2, eM2, h⟩ := pF_inv h
      refine ew_pF 0 2 d_XModel_init_237 fl_XModel_81 aM2 eM2 (fun ad => ⟨rfl, rfl⟩) ?_
      refine ew_aload_n 0 d_XModel_init_240 rfl rfl ?_
      obtain ⟨kM3, h⟩ := kO_inv h
      obtain ⟨M3, hM3, h⟩ := cV_inv h
      refine ew_callV 0 [] d_XModel_init_241 cv_XModel_84 (T_XModel_begin hM3) kM3 (Nat.le_trans (Nat.le_of_ble_eq_true rfl) hn) (Nat.le_trans (Nat.le_of_ble_eq_true rfl) hl) (Nat.le_of_ble_eq_true rfl) rfl rfl ?_
      obtain ⟨hz, hm⟩ := Prod.mk.inj (Option.some.inj h)
      exact ew_return d_XModel_init_244 rfl hz.symm hm.symm
    · rw [if_neg c1] at h
      refine ew_aload_n 0 d_XModel_init_201 rfl rfl ?_
      obtain ⟨v4, av4, bv4, h⟩ := gR_inv h
      refine ew_gR 0 3 d_XModel_init_202 fl_XModel_13 av4 bv4 ?_
      refine ew_iload_n 1 d_XModel_init_205 rfl rfl ?_
      refine ew_iload_n 1 d_XModel_init_206 rfl rfl ?_
      obtain ⟨M5, aM5, bM5, cM5, eM5, h⟩ := wI_inv h
      refine ew_wI d_XModel_init_207 aM5 bM5 cM5 eM5 ?_
      refine ew_aload_n 0 d_XModel_init_208 rfl rfl ?_
      obtain ⟨v6, av6, bv6, h⟩ := gR_inv h
      refine ew_gR 0 4 d_XModel_init_209 fl_XModel_17 av6 bv6 ?_
      refine ew_iload_n 1 d_XModel_init_212 rfl rfl ?_
      refine ew_iconst (-1) d_XModel_init_213 (by decide) ?_
      obtain ⟨M7, aM7, bM7, cM7, eM7, h⟩ := wI_inv h
      refine ew_wI d_XModel_init_214 aM7 bM7 cM7 eM7 ?_
      refine ew_aload_n 0 d_XModel_init_215 rfl rfl ?_
      obtain ⟨v8, av8, bv8, h⟩ := gR_inv h
      refine ew_gR 0 5 d_XModel_init_216 fl_XModel_20 av8 bv8 ?_
      refine ew_iload_n 1 d_XModel_init_219 rfl rfl ?_
      refine ew_iconst (-1) d_XModel_init_220 (by decide) ?_
      obtain ⟨M9, aM9, bM9, cM9, eM9, h⟩ := wI_inv h
      refine ew_wI d_XModel_init_221 aM9 bM9 cM9 eM9 ?_
      refine ew_aload_n 0 d_XModel_init_222 rfl rfl ?_
      obtain ⟨v10, av10, bv10, h⟩ := gR_inv h
      refine ew_gR 0 6 d_XModel_init_223 fl_XModel_23 av10 bv10 ?_
      refine ew_iload_n 1 d_XModel_init_226 rfl rfl ?_
      refine ew_iconst (-1) d_XModel_init_227 (by decide) ?_
      obtain ⟨M11, aM11, bM11, cM11, eM11, h⟩ := wI_inv h
      refine ew_wI d_XModel_init_228 aM11 bM11 cM11 eM11 ?_
      obtain ⟨v12, ev12, h⟩ := bI_inv h
      refine ew_iinc (L' := [(0, .ref l0), (1, .int v12)]) v12 [1, 0] d_XModel_init_229 rfl (by rw [ev12]; rfl) (by decide) rfl ?_
      refine ew_goto 196 d_XModel_init_232 (by decide) ?_
      exact ih l0 v12 M11 h
def F_XModel_init (n : Nat) (l0 : Nat) (M : PM) : qO :=
  pF 0 M l0 1 (.int (3 : Int32)) (fun M1 =>
  mA 0 M1 (6400 : Int32) (fun q2 M3 =>
  pF 0 M3 l0 3 (.ref q2) (fun M4 =>
  mA 0 M4 (6400 : Int32) (fun q5 M6 =>
  pF 0 M6 l0 4 (.ref q5) (fun M7 =>
  mA 0 M7 (6400 : Int32) (fun q8 M9 =>
  pF 0 M9 l0 5 (.ref q8) (fun M10 =>
  mA 0 M10 (6400 : Int32) (fun q11 M12 =>
  pF 0 M12 l0 6 (.ref q11) (fun M13 =>
  mA 0 M13 (1021 : Int32) (fun q14 M15 =>
  pF 0 M15 l0 7 (.ref q14) (fun M16 =>
  mA 0 M16 (6400 : Int32) (fun q17 M18 =>
  pF 0 M18 l0 8 (.ref q17) (fun M19 =>
  mA 0 M19 (16 : Int32) (fun q20 M21 =>
  pF 0 M21 l0 11 (.ref q20) (fun M22 =>
  mA 0 M22 (16 : Int32) (fun q23 M24 =>
  pF 0 M24 l0 12 (.ref q23) (fun M25 =>
  mA 1 M25 (16 : Int32) (fun q26 M27 =>
  pF 0 M27 l0 13 (.ref q26) (fun M28 =>
  mA 0 M28 (16 : Int32) (fun q29 M30 =>
  pF 0 M30 l0 14 (.ref q29) (fun M31 =>
  mA 1 M31 (16 : Int32) (fun q32 M33 =>
  pF 0 M33 l0 15 (.ref q32) (fun M34 =>
  mA 0 M34 (8 : Int32) (fun q35 M36 =>
  pF 0 M36 l0 16 (.ref q35) (fun M37 =>
  mA 0 M37 (300 : Int32) (fun q38 M39 =>
  pF 0 M39 l0 17 (.ref q38) (fun M40 =>
  mA 0 M40 (16 : Int32) (fun q41 M42 =>
  pF 0 M42 l0 18 (.ref q41) (fun M43 =>
  mA 0 M43 (16 : Int32) (fun q44 M45 =>
  pF 0 M45 l0 19 (.ref q44) (fun M46 =>
  mA 0 M46 (16 : Int32) (fun q47 M48 =>
  pF 0 M48 l0 20 (.ref q47) (fun M49 =>
  mA 1 M49 (6400 : Int32) (fun q50 M51 =>
  pF 0 M51 l0 21 (.ref q50) (fun M52 =>
  mA 0 M52 (6400 : Int32) (fun q53 M54 =>
  pF 0 M54 l0 22 (.ref q53) (fun M55 =>
  mA 0 M55 (7 : Int32) (fun q56 M57 =>
  pF 0 M57 l0 26 (.ref q56) (fun M58 =>
  mA 0 M58 (7 : Int32) (fun q59 M60 =>
  pF 0 M60 l0 27 (.ref q59) (fun M61 =>
  mA 0 M61 (6 : Int32) (fun q62 M63 =>
  pF 0 M63 l0 28 (.ref q62) (fun M64 =>
  mA 0 M64 (16 : Int32) (fun q65 M66 =>
  pF 0 M66 l0 32 (.ref q65) (fun M67 =>
  F_XModel_init_196 n n l0 (0 : Int32) M67)))))))))))))))))))))))))))))))))))))))))))))
set_option maxHeartbeats 4000000 in
set_option maxRecDepth 100000 in
theorem E_XModel_init {g : qG} {X : qX} {Z : qZ} (hn : 3 ≤ zn Z) (hl : 66 ≤ zl Z) {n : Nat} {l0 : Nat} {M : PM} (h : F_XModel_init n l0 M = some (zr Z, zf Z)) : EW Y_XModel_init g X Z 0 [(0, .ref l0)] [] M := by
  unfold F_XModel_init at h
  refine ew_aload_n 0 d_XModel_init_0 rfl rfl ?_
  refine ew_objInit d_XModel_init_1 ob_XModel_1 (Nat.le_trans (Nat.le_of_ble_eq_true rfl) hn) (Nat.le_trans (Nat.le_of_ble_eq_true rfl) hl) ?_
  refine ew_aload_n 0 d_XModel_init_4 rfl rfl ?_
  refine ew_iconst (3) d_XModel_init_5 (by decide) ?_
  obtain ⟨M1, aM1, eM1, h⟩ := pF_inv h
  refine ew_pF 0 1 d_XModel_init_6 fl_XModel_7 aM1 eM1 (fun ad => ⟨rfl, rfl⟩) ?_
  refine ew_aload_n 0 d_XModel_init_9 rfl rfl ?_
  refine ew_sipush (6400) d_XModel_init_10 (by decide +kernel) ?_
  obtain ⟨q2, M3, aq2, bq2, eq2, fq2, h⟩ := mA_inv h
  refine ew_mA0 d_XModel_init_13 aq2 bq2 eq2 fq2 ?_
  obtain ⟨M4, aM4, eM4, h⟩ := pF_inv h
  refine ew_pFF 0 3 d_XModel_init_15 fl_XModel_13 rfl rfl aM4 eM4 (fun ad => ⟨rfl, rfl⟩) ?_
  refine ew_aload_n 0 d_XModel_init_18 rfl rfl ?_
  refine ew_sipush (6400) d_XModel_init_19 (by decide +kernel) ?_
  obtain ⟨q5, M6, aq5, bq5, eq5, fq5, h⟩ := mA_inv h
  refine ew_mA0 d_XModel_init_22 aq5 bq5 eq5 fq5 ?_
  obtain ⟨M7, aM7, eM7, h⟩ := pF_inv h
  refine ew_pFF 0 4 d_XModel_init_24 fl_XModel_17 rfl rfl aM7 eM7 (fun ad => ⟨rfl, rfl⟩) ?_
  refine ew_aload_n 0 d_XModel_init_27 rfl rfl ?_
  refine ew_sipush (6400) d_XModel_init_28 (by decide +kernel) ?_
  obtain ⟨q8, M9, aq8, bq8, eq8, fq8, h⟩ := mA_inv h
  refine ew_mA0 d_XModel_init_31 aq8 bq8 eq8 fq8 ?_
  obtain ⟨M10, aM10, eM10, h⟩ := pF_inv h
  refine ew_pFF 0 5 d_XModel_init_33 fl_XModel_20 rfl rfl aM10 eM10 (fun ad => ⟨rfl, rfl⟩) ?_
  refine ew_aload_n 0 d_XModel_init_36 rfl rfl ?_
  refine ew_sipush (6400) d_XModel_init_37 (by decide +kernel) ?_
  obtain ⟨q11, M12, aq11, bq11, eq11, fq11, h⟩ := mA_inv h
  refine ew_mA0 d_XModel_init_40 aq11 bq11 eq11 fq11 ?_
  obtain ⟨M13, aM13, eM13, h⟩ := pF_inv h
  refine ew_pFF 0 6 d_XModel_init_42 fl_XModel_23 rfl rfl aM13 eM13 (fun ad => ⟨rfl, rfl⟩) ?_
  refine ew_aload_n 0 d_XModel_init_45 rfl rfl ?_
  refine ew_sipush (1021) d_XModel_init_46 (by decide +kernel) ?_
  obtain ⟨q14, M15, aq14, bq14, eq14, fq14, h⟩ := mA_inv h
  refine ew_mA0 d_XModel_init_49 aq14 bq14 eq14 fq14 ?_
  obtain ⟨M16, aM16, eM16, h⟩ := pF_inv h
  refine ew_pFF 0 7 d_XModel_init_51 fl_XModel_26 rfl rfl aM16 eM16 (fun ad => ⟨rfl, rfl⟩) ?_
  refine ew_aload_n 0 d_XModel_init_54 rfl rfl ?_
  refine ew_sipush (6400) d_XModel_init_55 (by decide +kernel) ?_
  obtain ⟨q17, M18, aq17, bq17, eq17, fq17, h⟩ := mA_inv h
  refine ew_mA0 d_XModel_init_58 aq17 bq17 eq17 fq17 ?_
  obtain ⟨M19, aM19, eM19, h⟩ := pF_inv h
  refine ew_pFF 0 8 d_XModel_init_60 fl_XModel_29 rfl rfl aM19 eM19 (fun ad => ⟨rfl, rfl⟩) ?_
  refine ew_aload_n 0 d_XModel_init_63 rfl rfl ?_
  refine ew_bipush (16) d_XModel_init_64 (by decide +kernel) ?_
  obtain ⟨q20, M21, aq20, bq20, eq20, fq20, h⟩ := mA_inv h
  refine ew_mA0 d_XModel_init_66 aq20 bq20 eq20 fq20 ?_
  obtain ⟨M22, aM22, eM22, h⟩ := pF_inv h
  refine ew_pFF 0 11 d_XModel_init_68 fl_XModel_32 rfl rfl aM22 eM22 (fun ad => ⟨rfl, rfl⟩) ?_
  refine ew_aload_n 0 d_XModel_init_71 rfl rfl ?_
  refine ew_bipush (16) d_XModel_init_72 (by decide +kernel) ?_
  obtain ⟨q23, M24, aq23, bq23, eq23, fq23, h⟩ := mA_inv h
  refine ew_mA0 d_XModel_init_74 aq23 bq23 eq23 fq23 ?_
  obtain ⟨M25, aM25, eM25, h⟩ := pF_inv h
  refine ew_pFF 0 12 d_XModel_init_76 fl_XModel_35 rfl rfl aM25 eM25 (fun ad => ⟨rfl, rfl⟩) ?_
  refine ew_aload_n 0 d_XModel_init_79 rfl rfl ?_
  refine ew_bipush (16) d_XModel_init_80 (by decide +kernel) ?_
  obtain ⟨q26, M27, aq26, bq26, eq26, fq26, h⟩ := mA_inv h
  refine ew_mA1 d_XModel_init_82 aq26 bq26 eq26 fq26 ?_
  obtain ⟨M28, aM28, eM28, h⟩ := pF_inv h
  refine ew_pFF 0 13 d_XModel_init_84 fl_XModel_38 rfl rfl aM28 eM28 (fun ad => ⟨rfl, rfl⟩) ?_
  refine ew_aload_n 0 d_XModel_init_87 rfl rfl ?_
  refine ew_bipush (16) d_XModel_init_88 (by decide +kernel) ?_
  obtain ⟨q29, M30, aq29, bq29, eq29, fq29, h⟩ := mA_inv h
  refine ew_mA0 d_XModel_init_90 aq29 bq29 eq29 fq29 ?_
  obtain ⟨M31, aM31, eM31, h⟩ := pF_inv h
  refine ew_pFF 0 14 d_XModel_init_92 fl_XModel_42 rfl rfl aM31 eM31 (fun ad => ⟨rfl, rfl⟩) ?_
  refine ew_aload_n 0 d_XModel_init_95 rfl rfl ?_
  refine ew_bipush (16) d_XModel_init_96 (by decide +kernel) ?_
  obtain ⟨q32, M33, aq32, bq32, eq32, fq32, h⟩ := mA_inv h
  refine ew_mA1 d_XModel_init_98 aq32 bq32 eq32 fq32 ?_
  obtain ⟨M34, aM34, eM34, h⟩ := pF_inv h
  refine ew_pFF 0 15 d_XModel_init_100 fl_XModel_45 rfl rfl aM34 eM34 (fun ad => ⟨rfl, rfl⟩) ?_
  refine ew_aload_n 0 d_XModel_init_103 rfl rfl ?_
  refine ew_bipush (8) d_XModel_init_104 (by decide +kernel) ?_
  obtain ⟨q35, M36, aq35, bq35, eq35, fq35, h⟩ := mA_inv h
  refine ew_mA0 d_XModel_init_106 aq35 bq35 eq35 fq35 ?_
  obtain ⟨M37, aM37, eM37, h⟩ := pF_inv h
  refine ew_pFF 0 16 d_XModel_init_108 fl_XModel_48 rfl rfl aM37 eM37 (fun ad => ⟨rfl, rfl⟩) ?_
  refine ew_aload_n 0 d_XModel_init_111 rfl rfl ?_
  refine ew_sipush (300) d_XModel_init_112 (by decide +kernel) ?_
  obtain ⟨q38, M39, aq38, bq38, eq38, fq38, h⟩ := mA_inv h
  refine ew_mA0 d_XModel_init_115 aq38 bq38 eq38 fq38 ?_
  obtain ⟨M40, aM40, eM40, h⟩ := pF_inv h
  refine ew_pFF 0 17 d_XModel_init_117 fl_XModel_51 rfl rfl aM40 eM40 (fun ad => ⟨rfl, rfl⟩) ?_
  refine ew_aload_n 0 d_XModel_init_120 rfl rfl ?_
  refine ew_bipush (16) d_XModel_init_121 (by decide +kernel) ?_
  obtain ⟨q41, M42, aq41, bq41, eq41, fq41, h⟩ := mA_inv h
  refine ew_mA0 d_XModel_init_123 aq41 bq41 eq41 fq41 ?_
  obtain ⟨M43, aM43, eM43, h⟩ := pF_inv h
  refine ew_pFF 0 18 d_XModel_init_125 fl_XModel_54 rfl rfl aM43 eM43 (fun ad => ⟨rfl, rfl⟩) ?_
  refine ew_aload_n 0 d_XModel_init_128 rfl rfl ?_
  refine ew_bipush (16) d_XModel_init_129 (by decide +kernel) ?_
  obtain ⟨q44, M45, aq44, bq44, eq44, fq44, h⟩ := mA_inv h
  refine ew_mA0 d_XModel_init_131 aq44 bq44 eq44 fq44 ?_
  obtain ⟨M46, aM46, eM46, h⟩ := pF_inv h
  refine ew_pFF 0 19 d_XModel_init_133 fl_XModel_57 rfl rfl aM46 eM46 (fun ad => ⟨rfl, rfl⟩) ?_
  refine ew_aload_n 0 d_XModel_init_136 rfl rfl ?_
  refine ew_bipush (16) d_XModel_init_137 (by decide +kernel) ?_
  obtain ⟨q47, M48, aq47, bq47, eq47, fq47, h⟩ := mA_inv h
  refine ew_mA0 d_XModel_init_139 aq47 bq47 eq47 fq47 ?_
  obtain ⟨M49, aM49, eM49, h⟩ := pF_inv h
  refine ew_pFF 0 20 d_XModel_init_141 fl_XModel_60 rfl rfl aM49 eM49 (fun ad => ⟨rfl, rfl⟩) ?_
  refine ew_aload_n 0 d_XModel_init_144 rfl rfl ?_
  refine ew_sipush (6400) d_XModel_init_145 (by decide +kernel) ?_
  obtain ⟨q50, M51, aq50, bq50, eq50, fq50, h⟩ := mA_inv h
  refine ew_mA1 d_XModel_init_148 aq50 bq50 eq50 fq50 ?_
  obtain ⟨M52, aM52, eM52, h⟩ := pF_inv h
  refine ew_pFF 0 21 d_XModel_init_150 fl_XModel_63 rfl rfl aM52 eM52 (fun ad => ⟨rfl, rfl⟩) ?_
  refine ew_aload_n 0 d_XModel_init_153 rfl rfl ?_
  refine ew_sipush (6400) d_XModel_init_154 (by decide +kernel) ?_
  obtain ⟨q53, M54, aq53, bq53, eq53, fq53, h⟩ := mA_inv h
  refine ew_mA0 d_XModel_init_157 aq53 bq53 eq53 fq53 ?_
  obtain ⟨M55, aM55, eM55, h⟩ := pF_inv h
  refine ew_pFF 0 22 d_XModel_init_159 fl_XModel_66 rfl rfl aM55 eM55 (fun ad => ⟨rfl, rfl⟩) ?_
  refine ew_aload_n 0 d_XModel_init_162 rfl rfl ?_
  refine ew_bipush (7) d_XModel_init_163 (by decide +kernel) ?_
  obtain ⟨q56, M57, aq56, bq56, eq56, fq56, h⟩ := mA_inv h
  refine ew_mA0 d_XModel_init_165 aq56 bq56 eq56 fq56 ?_
  obtain ⟨M58, aM58, eM58, h⟩ := pF_inv h
  refine ew_pFF 0 26 d_XModel_init_167 fl_XModel_69 rfl rfl aM58 eM58 (fun ad => ⟨rfl, rfl⟩) ?_
  refine ew_aload_n 0 d_XModel_init_170 rfl rfl ?_
  refine ew_bipush (7) d_XModel_init_171 (by decide +kernel) ?_
  obtain ⟨q59, M60, aq59, bq59, eq59, fq59, h⟩ := mA_inv h
  refine ew_mA0 d_XModel_init_173 aq59 bq59 eq59 fq59 ?_
  obtain ⟨M61, aM61, eM61, h⟩ := pF_inv h
  refine ew_pFF 0 27 d_XModel_init_175 fl_XModel_72 rfl rfl aM61 eM61 (fun ad => ⟨rfl, rfl⟩) ?_
  refine ew_aload_n 0 d_XModel_init_178 rfl rfl ?_
  refine ew_bipush (6) d_XModel_init_179 (by decide +kernel) ?_
  obtain ⟨q62, M63, aq62, bq62, eq62, fq62, h⟩ := mA_inv h
  refine ew_mA0 d_XModel_init_181 aq62 bq62 eq62 fq62 ?_
  obtain ⟨M64, aM64, eM64, h⟩ := pF_inv h
  refine ew_pFF 0 28 d_XModel_init_183 fl_XModel_75 rfl rfl aM64 eM64 (fun ad => ⟨rfl, rfl⟩) ?_
  refine ew_aload_n 0 d_XModel_init_186 rfl rfl ?_
  refine ew_bipush (16) d_XModel_init_187 (by decide +kernel) ?_
  obtain ⟨q65, M66, aq65, bq65, eq65, fq65, h⟩ := mA_inv h
  refine ew_mA0 d_XModel_init_189 aq65 bq65 eq65 fq65 ?_
  obtain ⟨M67, aM67, eM67, h⟩ := pF_inv h
  refine ew_pFF 0 32 d_XModel_init_191 fl_XModel_78 rfl rfl aM67 eM67 (fun ad => ⟨rfl, rfl⟩) ?_
  refine ew_iconst (0) d_XModel_init_194 (by decide) ?_
  refine ew_istore_n (L' := [(0, .ref l0), (1, .int (0 : Int32))]) 1 [1, 0] d_XModel_init_195 rfl (by decide) rfl ?_
  exact E_XModel_init_196 hn hl n l0 (0 : Int32) M67 h
theorem T_XModel_init {n : Nat} {l0 : Nat} {M Mf : PM} {res : qRs} (h : F_XModel_init n l0 M = some (res, Mf)) : CT Y_XModel_init 3 66 [.ref l0] M res Mf :=
  CT_of (by decide) (Nat.le_of_ble_eq_true rfl) (qHd_ne (by decide)) (fun g X ad0 => E_XModel_init (g := g) (X := X) (Z := (ad0, M, res, Mf, 3, 66)) (Nat.le_refl _) (Nat.le_refl _) h)
theorem d_XModel_fail_0 : decode Y_XModel_fail.2.1 0 = .ok (.aload_n 0, 1) := by decide +kernel
theorem d_XModel_fail_1 : decode Y_XModel_fail.2.1 1 = .ok (.iload_n 1, 1) := by decide +kernel
theorem d_XModel_fail_2 : decode Y_XModel_fail.2.1 2 = .ok (.putfield 87, 3) := by decide +kernel
theorem d_XModel_fail_5 : decode Y_XModel_fail.2.1 5 = .ok (.iconst 0, 1) := by decide +kernel
theorem d_XModel_fail_6 : decode Y_XModel_fail.2.1 6 = .ok (.ireturn, 1) := by decide +kernel
def F_XModel_fail (n : Nat) (l0 : Nat) (l1 : Int32) (M : PM) : qO :=
  pF 0 M l0 0 (.int l1) (fun M1 =>
  some (.inl (some (.int (0 : Int32))), M1))
set_option maxHeartbeats 4000000 in
set_option maxRecDepth 100000 in
theorem E_XModel_fail {g : qG} {X : qX} {Z : qZ} (hn : 0 ≤ zn Z) (hl : 0 ≤ zl Z) {n : Nat} {l0 : Nat} {l1 : Int32} {M : PM} (h : F_XModel_fail n l0 l1 M = some (zr Z, zf Z)) : EW Y_XModel_fail g X Z 0 [(0, .ref l0), (1, .int l1)] [] M := by
  unfold F_XModel_fail at h
  refine ew_aload_n 0 d_XModel_fail_0 rfl rfl ?_
  refine ew_iload_n 1 d_XModel_fail_1 rfl rfl ?_
  obtain ⟨M1, aM1, eM1, h⟩ := pF_inv h
  refine ew_pF 0 0 d_XModel_fail_2 fl_XModel_87 aM1 eM1 (fun ad => ⟨rfl, rfl⟩) ?_
  refine ew_iconst (0) d_XModel_fail_5 (by decide) ?_
  obtain ⟨hz, hm⟩ := Prod.mk.inj (Option.some.inj h)
  exact ew_ireturn d_XModel_fail_6 rfl hz.symm hm.symm
theorem T_XModel_fail {n : Nat} {l0 : Nat} {l1 : Int32} {M Mf : PM} {res : qRs} (h : F_XModel_fail n l0 l1 M = some (res, Mf)) : CT Y_XModel_fail 0 0 [.ref l0, .int l1] M res Mf :=
  CT_of (by decide) (Nat.le_of_ble_eq_true rfl) (qHd_ne (by decide)) (fun g X ad0 => E_XModel_fail (g := g) (X := X) (Z := (ad0, M, res, Mf, 0, 0)) (Nat.le_refl _) (Nat.le_refl _) h)
theorem d_XModel_add_0 : decode Y_XModel_add.2.1 0 = .ok (.aload_n 0, 1) := by decide +kernel
theorem d_XModel_add_1 : decode Y_XModel_add.2.1 1 = .ok (.getfield 13, 3) := by decide +kernel
theorem d_XModel_add_4 : decode Y_XModel_add.2.1 4 = .ok (.aload_n 0, 1) := by decide +kernel
theorem d_XModel_add_5 : decode Y_XModel_add.2.1 5 = .ok (.getfield 81, 3) := by decide +kernel
theorem d_XModel_add_8 : decode Y_XModel_add.2.1 8 = .ok (.iload_n 1, 1) := by decide +kernel
theorem d_XModel_add_9 : decode Y_XModel_add.2.1 9 = .ok (.iastore, 1) := by decide +kernel
theorem d_XModel_add_10 : decode Y_XModel_add.2.1 10 = .ok (.aload_n 0, 1) := by decide +kernel
theorem d_XModel_add_11 : decode Y_XModel_add.2.1 11 = .ok (.getfield 17, 3) := by decide +kernel
theorem d_XModel_add_14 : decode Y_XModel_add.2.1 14 = .ok (.aload_n 0, 1) := by decide +kernel
theorem d_XModel_add_15 : decode Y_XModel_add.2.1 15 = .ok (.getfield 81, 3) := by decide +kernel
theorem d_XModel_add_18 : decode Y_XModel_add.2.1 18 = .ok (.iload_n 2, 1) := by decide +kernel
theorem d_XModel_add_19 : decode Y_XModel_add.2.1 19 = .ok (.iastore, 1) := by decide +kernel
theorem d_XModel_add_20 : decode Y_XModel_add.2.1 20 = .ok (.aload_n 0, 1) := by decide +kernel
theorem d_XModel_add_21 : decode Y_XModel_add.2.1 21 = .ok (.getfield 20, 3) := by decide +kernel
theorem d_XModel_add_24 : decode Y_XModel_add.2.1 24 = .ok (.aload_n 0, 1) := by decide +kernel
theorem d_XModel_add_25 : decode Y_XModel_add.2.1 25 = .ok (.getfield 81, 3) := by decide +kernel
theorem d_XModel_add_28 : decode Y_XModel_add.2.1 28 = .ok (.iload_n 3, 1) := by decide +kernel
theorem d_XModel_add_29 : decode Y_XModel_add.2.1 29 = .ok (.iastore, 1) := by decide +kernel
theorem d_XModel_add_30 : decode Y_XModel_add.2.1 30 = .ok (.aload_n 0, 1) := by decide +kernel
theorem d_XModel_add_31 : decode Y_XModel_add.2.1 31 = .ok (.getfield 23, 3) := by decide +kernel
theorem d_XModel_add_34 : decode Y_XModel_add.2.1 34 = .ok (.aload_n 0, 1) := by decide +kernel
theorem d_XModel_add_35 : decode Y_XModel_add.2.1 35 = .ok (.getfield 81, 3) := by decide +kernel
theorem d_XModel_add_38 : decode Y_XModel_add.2.1 38 = .ok (.iload 4, 2) := by decide +kernel
theorem d_XModel_add_40 : decode Y_XModel_add.2.1 40 = .ok (.iastore, 1) := by decide +kernel
theorem d_XModel_add_41 : decode Y_XModel_add.2.1 41 = .ok (.aload_n 0, 1) := by decide +kernel
theorem d_XModel_add_42 : decode Y_XModel_add.2.1 42 = .ok (.aload_n 0, 1) := by decide +kernel
theorem d_XModel_add_43 : decode Y_XModel_add.2.1 43 = .ok (.getfield 81, 3) := by decide +kernel
theorem d_XModel_add_46 : decode Y_XModel_add.2.1 46 = .ok (.invokevirtual 95, 3) := by decide +kernel
theorem d_XModel_add_49 : decode Y_XModel_add.2.1 49 = .ok (.aload_n 0, 1) := by decide +kernel
theorem d_XModel_add_50 : decode Y_XModel_add.2.1 50 = .ok (.dup, 1) := by decide +kernel
theorem d_XModel_add_51 : decode Y_XModel_add.2.1 51 = .ok (.getfield 81, 3) := by decide +kernel
theorem d_XModel_add_54 : decode Y_XModel_add.2.1 54 = .ok (.iconst 1, 1) := by decide +kernel
theorem d_XModel_add_55 : decode Y_XModel_add.2.1 55 = .ok (.iadd, 1) := by decide +kernel
theorem d_XModel_add_56 : decode Y_XModel_add.2.1 56 = .ok (.putfield 81, 3) := by decide +kernel
theorem d_XModel_add_59 : decode Y_XModel_add.2.1 59 = .ok (.aload_n 0, 1) := by decide +kernel
theorem d_XModel_add_60 : decode Y_XModel_add.2.1 60 = .ok (.getfield 81, 3) := by decide +kernel
theorem d_XModel_add_63 : decode Y_XModel_add.2.1 63 = .ok (.iconst 1, 1) := by decide +kernel
theorem d_XModel_add_64 : decode Y_XModel_add.2.1 64 = .ok (.isub, 1) := by decide +kernel
theorem d_XModel_add_65 : decode Y_XModel_add.2.1 65 = .ok (.ireturn, 1) := by decide +kernel
def F_XModel_add (n : Nat) (l0 : Nat) (l1 : Int32) (l2 : Int32) (l3 : Int32) (l4 : Int32) (M : PM) : qO :=
  gR 0 M l0 3 (fun v1 =>
  gI 0 M l0 2 (fun v2 =>
  wI M v1 v2 l1 (fun M3 =>
  gR 0 M3 l0 4 (fun v4 =>
  gI 0 M3 l0 2 (fun v5 =>
  wI M3 v4 v5 l2 (fun M6 =>
  gR 0 M6 l0 5 (fun v7 =>
  gI 0 M6 l0 2 (fun v8 =>
  wI M6 v7 v8 l3 (fun M9 =>
  gR 0 M9 l0 6 (fun v10 =>
  gI 0 M9 l0 2 (fun v11 =>
  wI M9 v10 v11 l4 (fun M12 =>
  gI 0 M12 l0 2 (fun v13 =>
  kO 0 M12 l0 (
  cV (F_XModel_link n l0 v13 M12) (fun M14 =>
  gI 0 M14 l0 2 (fun v15 =>
  pF 0 M14 l0 2 (.int (v15 + (1 : Int32))) (fun M16 =>
  gI 0 M16 l0 2 (fun v17 =>
  some (.inl (some (.int (v17 - (1 : Int32)))), M16)))))))))))))))))))
set_option maxHeartbeats 4000000 in
set_option maxRecDepth 100000 in
theorem E_XModel_add {g : qG} {X : qX} {Z : qZ} (hn : 2 ≤ zn Z) (hl : 45 ≤ zl Z) {n : Nat} {l0 : Nat} {l1 : Int32} {l2 : Int32} {l3 : Int32} {l4 : Int32} {M : PM} (h : F_XModel_add n l0 l1 l2 l3 l4 M = some (zr Z, zf Z)) : EW Y_XModel_add g X Z 0 [(0, .ref l0), (1, .int l1), (2, .int l2), (3, .int l3), (4, .int l4)] [] M := by
  unfold F_XModel_add at h
  refine ew_aload_n 0 d_XModel_add_0 rfl rfl ?_
  obtain ⟨v1, av1, bv1, h⟩ := gR_inv h
  refine ew_gR 0 3 d_XModel_add_1 fl_XModel_13 av1 bv1 ?_
  refine ew_aload_n 0 d_XModel_add_4 rfl rfl ?_
  obtain ⟨v2, av2, bv2, h⟩ := gI_inv h
  refine ew_gI 0 2 d_XModel_add_5 fl_XModel_81 av2 bv2 ?_
  refine ew_iload_n 1 d_XModel_add_8 rfl rfl ?_
  obtain ⟨M3, aM3, bM3, cM3, eM3, h⟩ := wI_inv h
  refine ew_wI d_XModel_add_9 aM3 bM3 cM3 eM3 ?_
  refine ew_aload_n 0 d_XModel_add_10 rfl rfl ?_
  obtain ⟨v4, av4, bv4, h⟩ := gR_inv h
  refine ew_gR 0 4 d_XModel_add_11 fl_XModel_17 av4 bv4 ?_
  refine ew_aload_n 0 d_XModel_add_14 rfl rfl ?_
  obtain ⟨v5, av5, bv5, h⟩ := gI_inv h
  refine ew_gI 0 2 d_XModel_add_15 fl_XModel_81 av5 bv5 ?_
  refine ew_iload_n 2 d_XModel_add_18 rfl rfl ?_
  obtain ⟨M6, aM6, bM6, cM6, eM6, h⟩ := wI_inv h
  refine ew_wI d_XModel_add_19 aM6 bM6 cM6 eM6 ?_
  refine ew_aload_n 0 d_XModel_add_20 rfl rfl ?_
  obtain ⟨v7, av7, bv7, h⟩ := gR_inv h
  refine ew_gR 0 5 d_XModel_add_21 fl_XModel_20 av7 bv7 ?_
  refine ew_aload_n 0 d_XModel_add_24 rfl rfl ?_
  obtain ⟨v8, av8, bv8, h⟩ := gI_inv h
  refine ew_gI 0 2 d_XModel_add_25 fl_XModel_81 av8 bv8 ?_
  refine ew_iload_n 3 d_XModel_add_28 rfl rfl ?_
  obtain ⟨M9, aM9, bM9, cM9, eM9, h⟩ := wI_inv h
  refine ew_wI d_XModel_add_29 aM9 bM9 cM9 eM9 ?_
  refine ew_aload_n 0 d_XModel_add_30 rfl rfl ?_
  obtain ⟨v10, av10, bv10, h⟩ := gR_inv h
  refine ew_gR 0 6 d_XModel_add_31 fl_XModel_23 av10 bv10 ?_
  refine ew_aload_n 0 d_XModel_add_34 rfl rfl ?_
  obtain ⟨v11, av11, bv11, h⟩ := gI_inv h
  refine ew_gI 0 2 d_XModel_add_35 fl_XModel_81 av11 bv11 ?_
  refine ew_iload d_XModel_add_38 rfl ?_
  obtain ⟨M12, aM12, bM12, cM12, eM12, h⟩ := wI_inv h
  refine ew_wI d_XModel_add_40 aM12 bM12 cM12 eM12 ?_
  refine ew_aload_n 0 d_XModel_add_41 rfl rfl ?_
  refine ew_aload_n 0 d_XModel_add_42 rfl rfl ?_
  obtain ⟨v13, av13, bv13, h⟩ := gI_inv h
  refine ew_gI 0 2 d_XModel_add_43 fl_XModel_81 av13 bv13 ?_
  obtain ⟨kM14, h⟩ := kO_inv h
  obtain ⟨M14, hM14, h⟩ := cV_inv h
  refine ew_callV 0 [.int v13] d_XModel_add_46 cv_XModel_95 (T_XModel_link hM14) kM14 (Nat.le_trans (Nat.le_of_ble_eq_true rfl) hn) (Nat.le_trans (Nat.le_of_ble_eq_true rfl) hl) (Nat.le_of_ble_eq_true rfl) rfl rfl ?_
  refine ew_aload_n 0 d_XModel_add_49 rfl rfl ?_
  refine ew_dup d_XModel_add_50 rfl ?_
  obtain ⟨v15, av15, bv15, h⟩ := gI_inv h
  refine ew_gI 0 2 d_XModel_add_51 fl_XModel_81 av15 bv15 ?_
  refine ew_iconst (1) d_XModel_add_54 (by decide) ?_
  refine ew_iadd d_XModel_add_55 ?_
  obtain ⟨M16, aM16, eM16, h⟩ := pF_inv h
  refine ew_pF 0 2 d_XModel_add_56 fl_XModel_81 aM16 eM16 (fun ad => ⟨rfl, rfl⟩) ?_
  refine ew_aload_n 0 d_XModel_add_59 rfl rfl ?_
  obtain ⟨v17, av17, bv17, h⟩ := gI_inv h
  refine ew_gI 0 2 d_XModel_add_60 fl_XModel_81 av17 bv17 ?_
  refine ew_iconst (1) d_XModel_add_63 (by decide) ?_
  refine ew_isub d_XModel_add_64 ?_
  obtain ⟨hz, hm⟩ := Prod.mk.inj (Option.some.inj h)
  exact ew_ireturn d_XModel_add_65 rfl hz.symm hm.symm
theorem T_XModel_add {n : Nat} {l0 : Nat} {l1 : Int32} {l2 : Int32} {l3 : Int32} {l4 : Int32} {M Mf : PM} {res : qRs} (h : F_XModel_add n l0 l1 l2 l3 l4 M = some (res, Mf)) : CT Y_XModel_add 2 45 [.ref l0, .int l1, .int l2, .int l3, .int l4] M res Mf :=
  CT_of (by decide) (Nat.le_of_ble_eq_true rfl) (qHd_ne (by decide)) (fun g X ad0 => E_XModel_add (g := g) (X := X) (Z := (ad0, M, res, Mf, 2, 45)) (Nat.le_refl _) (Nat.le_refl _) h)
theorem d_XModel_addElement_0 : decode Y_XModel_addElement.2.1 0 = .ok (.aload_n 0, 1) := by decide +kernel
theorem d_XModel_addElement_1 : decode Y_XModel_addElement.2.1 1 = .ok (.iconst 0, 1) := by decide +kernel
theorem d_XModel_addElement_2 : decode Y_XModel_addElement.2.1 2 = .ok (.putfield 87, 3) := by decide +kernel
theorem d_XModel_addElement_5 : decode Y_XModel_addElement.2.1 5 = .ok (.aload_n 0, 1) := by decide +kernel
theorem d_XModel_addElement_6 : decode Y_XModel_addElement.2.1 6 = .ok (.getfield 119, 3) := by decide +kernel
theorem d_XModel_addElement_9 : decode Y_XModel_addElement.2.1 9 = .ok (.bipush (16), 2) := by decide +kernel
theorem d_XModel_addElement_11 : decode Y_XModel_addElement.2.1 11 = .ok (.if_icmp .eq (13), 3) := by decide +kernel
theorem d_XModel_addElement_14 : decode Y_XModel_addElement.2.1 14 = .ok (.aload_n 0, 1) := by decide +kernel
theorem d_XModel_addElement_15 : decode Y_XModel_addElement.2.1 15 = .ok (.getfield 7, 3) := by decide +kernel
theorem d_XModel_addElement_18 : decode Y_XModel_addElement.2.1 18 = .ok (.sipush (300), 3) := by decide +kernel
theorem d_XModel_addElement_21 : decode Y_XModel_addElement.2.1 21 = .ok (.if_icmp .ne (9), 3) := by decide +kernel
theorem d_XModel_addElement_24 : decode Y_XModel_addElement.2.1 24 = .ok (.aload_n 0, 1) := by decide +kernel
theorem d_XModel_addElement_25 : decode Y_XModel_addElement.2.1 25 = .ok (.iconst 1, 1) := by decide +kernel
theorem d_XModel_addElement_26 : decode Y_XModel_addElement.2.1 26 = .ok (.invokevirtual 111, 3) := by decide +kernel
theorem d_XModel_addElement_29 : decode Y_XModel_addElement.2.1 29 = .ok (.ireturn, 1) := by decide +kernel
theorem d_XModel_addElement_30 : decode Y_XModel_addElement.2.1 30 = .ok (.aload_n 0, 1) := by decide +kernel
theorem d_XModel_addElement_31 : decode Y_XModel_addElement.2.1 31 = .ok (.invokevirtual 84, 3) := by decide +kernel
theorem d_XModel_addElement_34 : decode Y_XModel_addElement.2.1 34 = .ok (.aload_n 0, 1) := by decide +kernel
theorem d_XModel_addElement_35 : decode Y_XModel_addElement.2.1 35 = .ok (.iload_n 1, 1) := by decide +kernel
theorem d_XModel_addElement_36 : decode Y_XModel_addElement.2.1 36 = .ok (.aload_n 0, 1) := by decide +kernel
theorem d_XModel_addElement_37 : decode Y_XModel_addElement.2.1 37 = .ok (.getfield 119, 3) := by decide +kernel
theorem d_XModel_addElement_40 : decode Y_XModel_addElement.2.1 40 = .ok (.iconst (-1), 1) := by decide +kernel
theorem d_XModel_addElement_41 : decode Y_XModel_addElement.2.1 41 = .ok (.iconst (-1), 1) := by decide +kernel
theorem d_XModel_addElement_42 : decode Y_XModel_addElement.2.1 42 = .ok (.invokevirtual 102, 3) := by decide +kernel
theorem d_XModel_addElement_45 : decode Y_XModel_addElement.2.1 45 = .ok (.istore_n 2, 1) := by decide +kernel
theorem d_XModel_addElement_46 : decode Y_XModel_addElement.2.1 46 = .ok (.aload_n 0, 1) := by decide +kernel
theorem d_XModel_addElement_47 : decode Y_XModel_addElement.2.1 47 = .ok (.dup, 1) := by decide +kernel
theorem d_XModel_addElement_48 : decode Y_XModel_addElement.2.1 48 = .ok (.getfield 7, 3) := by decide +kernel
theorem d_XModel_addElement_51 : decode Y_XModel_addElement.2.1 51 = .ok (.iconst 1, 1) := by decide +kernel
theorem d_XModel_addElement_52 : decode Y_XModel_addElement.2.1 52 = .ok (.iadd, 1) := by decide +kernel
theorem d_XModel_addElement_53 : decode Y_XModel_addElement.2.1 53 = .ok (.putfield 7, 3) := by decide +kernel
theorem d_XModel_addElement_56 : decode Y_XModel_addElement.2.1 56 = .ok (.aload_n 0, 1) := by decide +kernel
theorem d_XModel_addElement_57 : decode Y_XModel_addElement.2.1 57 = .ok (.getfield 32, 3) := by decide +kernel
theorem d_XModel_addElement_60 : decode Y_XModel_addElement.2.1 60 = .ok (.aload_n 0, 1) := by decide +kernel
theorem d_XModel_addElement_61 : decode Y_XModel_addElement.2.1 61 = .ok (.getfield 119, 3) := by decide +kernel
theorem d_XModel_addElement_64 : decode Y_XModel_addElement.2.1 64 = .ok (.iload_n 2, 1) := by decide +kernel
theorem d_XModel_addElement_65 : decode Y_XModel_addElement.2.1 65 = .ok (.iastore, 1) := by decide +kernel
theorem d_XModel_addElement_66 : decode Y_XModel_addElement.2.1 66 = .ok (.aload_n 0, 1) := by decide +kernel
theorem d_XModel_addElement_67 : decode Y_XModel_addElement.2.1 67 = .ok (.getfield 35, 3) := by decide +kernel
theorem d_XModel_addElement_70 : decode Y_XModel_addElement.2.1 70 = .ok (.aload_n 0, 1) := by decide +kernel
theorem d_XModel_addElement_71 : decode Y_XModel_addElement.2.1 71 = .ok (.getfield 119, 3) := by decide +kernel
theorem d_XModel_addElement_74 : decode Y_XModel_addElement.2.1 74 = .ok (.iload_n 2, 1) := by decide +kernel
theorem d_XModel_addElement_75 : decode Y_XModel_addElement.2.1 75 = .ok (.iastore, 1) := by decide +kernel
theorem d_XModel_addElement_76 : decode Y_XModel_addElement.2.1 76 = .ok (.aload_n 0, 1) := by decide +kernel
theorem d_XModel_addElement_77 : decode Y_XModel_addElement.2.1 77 = .ok (.dup, 1) := by decide +kernel
theorem d_XModel_addElement_78 : decode Y_XModel_addElement.2.1 78 = .ok (.getfield 119, 3) := by decide +kernel
theorem d_XModel_addElement_81 : decode Y_XModel_addElement.2.1 81 = .ok (.iconst 1, 1) := by decide +kernel
theorem d_XModel_addElement_82 : decode Y_XModel_addElement.2.1 82 = .ok (.iadd, 1) := by decide +kernel
theorem d_XModel_addElement_83 : decode Y_XModel_addElement.2.1 83 = .ok (.putfield 119, 3) := by decide +kernel
theorem d_XModel_addElement_86 : decode Y_XModel_addElement.2.1 86 = .ok (.iload_n 2, 1) := by decide +kernel
theorem d_XModel_addElement_87 : decode Y_XModel_addElement.2.1 87 = .ok (.ireturn, 1) := by decide +kernel
def F_XModel_addElement_24 (n : Nat) (l0 : Nat) (M : PM) : qO :=
  kO 0 M l0 (
  cI (F_XModel_fail n l0 (1 : Int32) M) (fun v2 M1 =>
  some (.inl (some (.int v2)), M1)))
set_option maxHeartbeats 4000000 in
set_option maxRecDepth 100000 in
theorem E_XModel_addElement_24 {g : qG} {X : qX} {Z : qZ} (hn : 3 ≤ zn Z) (hl : 69 ≤ zl Z) {n : Nat} {l0 : Nat} {M : PM} (h : F_XModel_addElement_24 n l0 M = some (zr Z, zf Z)) : EW Y_XModel_addElement g X Z 24 [(0, .ref l0)] [] M := by
  unfold F_XModel_addElement_24 at h
  refine ew_aload_n 0 d_XModel_addElement_24 rfl rfl ?_
  refine ew_iconst (1) d_XModel_addElement_25 (by decide) ?_
  obtain ⟨kM1, h⟩ := kO_inv h
  obtain ⟨v2, M1, hM1, h⟩ := cI_inv h
  refine ew_callV 0 [.int (1 : Int32)] d_XModel_addElement_26 cv_XModel_111 (T_XModel_fail hM1) kM1 (Nat.le_trans (Nat.le_of_ble_eq_true rfl) hn) (Nat.le_trans (Nat.le_of_ble_eq_true rfl) hl) (Nat.le_of_ble_eq_true rfl) rfl rfl ?_
  obtain ⟨hz, hm⟩ := Prod.mk.inj (Option.some.inj h)
  exact ew_ireturn d_XModel_addElement_29 rfl hz.symm hm.symm
def F_XModel_addElement (n : Nat) (l0 : Nat) (l1 : Int32) (M : PM) : qO :=
  pF 0 M l0 0 (.int (0 : Int32)) (fun M1 =>
  gI 0 M1 l0 9 (fun v2 =>
  if v2 = (16 : Int32) then
    F_XModel_addElement_24 n l0 M1
  else
    gI 0 M1 l0 1 (fun v4 =>
    if v4 = (300 : Int32) then
      F_XModel_addElement_24 n l0 M1
    else
      kO 0 M1 l0 (
      cV (F_XModel_begin n l0 M1) (fun M6 =>
      gI 0 M6 l0 9 (fun v7 =>
      kO 0 M6 l0 (
      cI (F_XModel_add n l0 l1 v7 (-1 : Int32) (-1 : Int32) M6) (fun v9 M8 =>
      gI 0 M8 l0 1 (fun v10 =>
      pF 0 M8 l0 1 (.int (v10 + (1 : Int32))) (fun M11 =>
      gR 0 M11 l0 11 (fun v12 =>
      gI 0 M11 l0 9 (fun v13 =>
      wI M11 v12 v13 v9 (fun M14 =>
      gR 0 M14 l0 12 (fun v15 =>
      gI 0 M14 l0 9 (fun v16 =>
      wI M14 v15 v16 v9 (fun M17 =>
      gI 0 M17 l0 9 (fun v18 =>
      pF 0 M17 l0 9 (.int (v18 + (1 : Int32))) (fun M19 =>
      some (.inl (some (.int v9)), M19)))))))))))))))))))
set_option maxHeartbeats 4000000 in
set_option maxRecDepth 100000 in
theorem E_XModel_addElement {g : qG} {X : qX} {Z : qZ} (hn : 3 ≤ zn Z) (hl : 69 ≤ zl Z) {n : Nat} {l0 : Nat} {l1 : Int32} {M : PM} (h : F_XModel_addElement n l0 l1 M = some (zr Z, zf Z)) : EW Y_XModel_addElement g X Z 0 [(0, .ref l0), (1, .int l1)] [] M := by
  unfold F_XModel_addElement at h
  refine ew_aload_n 0 d_XModel_addElement_0 rfl rfl ?_
  refine ew_iconst (0) d_XModel_addElement_1 (by decide) ?_
  obtain ⟨M1, aM1, eM1, h⟩ := pF_inv h
  refine ew_pF 0 0 d_XModel_addElement_2 fl_XModel_87 aM1 eM1 (fun ad => ⟨rfl, rfl⟩) ?_
  refine ew_aload_n 0 d_XModel_addElement_5 rfl rfl ?_
  obtain ⟨v2, av2, bv2, h⟩ := gI_inv h
  refine ew_gI 0 9 d_XModel_addElement_6 fl_XModel_119 av2 bv2 ?_
  refine ew_bipush (16) d_XModel_addElement_9 (by decide +kernel) ?_
  refine ew_icmp_eq 24 d_XModel_addElement_11 (by decide) (fun c3 => ?_) (fun c3 => ?_)
  · rw [if_pos c3] at h
    exact ew_pick (L' := [(0, .ref l0)]) [0] rfl (E_XModel_addElement_24 hn hl h)
  · rw [if_neg c3] at h
    refine ew_aload_n 0 d_XModel_addElement_14 rfl rfl ?_
    obtain ⟨v4, av4, bv4, h⟩ := gI_inv h
    refine ew_gI 0 1 d_XModel_addElement_15 fl_XModel_7 av4 bv4 ?_
    refine ew_sipush (300) d_XModel_addElement_18 (by decide +kernel) ?_
    refine ew_icmp_ne 30 d_XModel_addElement_21 (by decide) (fun c5 => ?_) (fun c5 => ?_)
    · rw [if_neg c5] at h
      refine ew_aload_n 0 d_XModel_addElement_30 rfl rfl ?_
      obtain ⟨kM6, h⟩ := kO_inv h
      obtain ⟨M6, hM6, h⟩ := cV_inv h
      refine ew_callV 0 [] d_XModel_addElement_31 cv_XModel_84 (T_XModel_begin hM6) kM6 (Nat.le_trans (Nat.le_of_ble_eq_true rfl) hn) (Nat.le_trans (Nat.le_of_ble_eq_true rfl) hl) (Nat.le_of_ble_eq_true rfl) rfl rfl ?_
      refine ew_aload_n 0 d_XModel_addElement_34 rfl rfl ?_
      refine ew_iload_n 1 d_XModel_addElement_35 rfl rfl ?_
      refine ew_aload_n 0 d_XModel_addElement_36 rfl rfl ?_
      obtain ⟨v7, av7, bv7, h⟩ := gI_inv h
      refine ew_gI 0 9 d_XModel_addElement_37 fl_XModel_119 av7 bv7 ?_
      refine ew_iconst (-1) d_XModel_addElement_40 (by decide) ?_
      refine ew_iconst (-1) d_XModel_addElement_41 (by decide) ?_
      obtain ⟨kM8, h⟩ := kO_inv h
      obtain ⟨v9, M8, hM8, h⟩ := cI_inv h
      refine ew_callV 0 [.int l1, .int v7, .int (-1 : Int32), .int (-1 : Int32)] d_XModel_addElement_42 cv_XModel_102 (T_XModel_add hM8) kM8 (Nat.le_trans (Nat.le_of_ble_eq_true rfl) hn) (Nat.le_trans (Nat.le_of_ble_eq_true rfl) hl) (Nat.le_of_ble_eq_true rfl) rfl rfl ?_
      refine ew_istore_n (L' := [(0, .ref l0), (1, .int l1), (2, .int v9)]) 2 [1, 2, 0] d_XModel_addElement_45 rfl (by decide) rfl ?_
      refine ew_aload_n 0 d_XModel_addElement_46 rfl rfl ?_
      refine ew_dup d_XModel_addElement_47 rfl ?_
      obtain ⟨v10, av10, bv10, h⟩ := gI_inv h
      refine ew_gI 0 1 d_XModel_addElement_48 fl_XModel_7 av10 bv10 ?_
      refine ew_iconst (1) d_XModel_addElement_51 (by decide) ?_
      refine ew_iadd d_XModel_addElement_52 ?_
      obtain ⟨M11, aM11, eM11, h⟩ := pF_inv h
      refine ew_pF 0 1 d_XModel_addElement_53 fl_XModel_7 aM11 eM11 (fun ad => ⟨rfl, rfl⟩) ?_
      refine ew_aload_n 0 d_XModel_addElement_56 rfl rfl ?_
      obtain ⟨v12, av12, bv12, h⟩ := gR_inv h
      refine ew_gR 0 11 d_XModel_addElement_57 fl_XModel_32 av12 bv12 ?_
      refine ew_aload_n 0 d_XModel_addElement_60 rfl rfl ?_
      obtain ⟨v13, av13, bv13, h⟩ := gI_inv h
      refine ew_gI 0 9 d_XModel_addElement_61 fl_XModel_119 av13 bv13 ?_
      refine ew_iload_n 2 d_XModel_addElement_64 rfl rfl ?_
      obtain ⟨M14, aM14, bM14, cM14, eM14, h⟩ := wI_inv h
      refine ew_wI d_XModel_addElement_65 aM14 bM14 cM14 eM14 ?_
      refine ew_aload_n 0 d_XModel_addElement_66 rfl rfl ?_
      obtain ⟨v15, av15, bv15, h⟩ := gR_inv h
      refine ew_gR 0 12 d_XModel_addElement_67 fl_XModel_35 av15 bv15 ?_
      refine ew_aload_n 0 d_XModel_addElement_70 rfl rfl ?_
      obtain ⟨v16, av16, bv16, h⟩ := gI_inv h
      refine ew_gI 0 9 d_XModel_addElement_71 fl_XModel_119 av16 bv16 ?_
      refine ew_iload_n 2 d_XModel_addElement_74 rfl rfl ?_
      obtain ⟨M17, aM17, bM17, cM17, eM17, h⟩ := wI_inv h
      refine ew_wI d_XModel_addElement_75 aM17 bM17 cM17 eM17 ?_
      refine ew_aload_n 0 d_XModel_addElement_76 rfl rfl ?_
      refine ew_dup d_XModel_addElement_77 rfl ?_
      obtain ⟨v18, av18, bv18, h⟩ := gI_inv h
      refine ew_gI 0 9 d_XModel_addElement_78 fl_XModel_119 av18 bv18 ?_
      refine ew_iconst (1) d_XModel_addElement_81 (by decide) ?_
      refine ew_iadd d_XModel_addElement_82 ?_
      obtain ⟨M19, aM19, eM19, h⟩ := pF_inv h
      refine ew_pF 0 9 d_XModel_addElement_83 fl_XModel_119 aM19 eM19 (fun ad => ⟨rfl, rfl⟩) ?_
      refine ew_iload_n 2 d_XModel_addElement_86 rfl rfl ?_
      obtain ⟨hz, hm⟩ := Prod.mk.inj (Option.some.inj h)
      exact ew_ireturn d_XModel_addElement_87 rfl hz.symm hm.symm
    · rw [if_pos c5] at h
      exact ew_pick (L' := [(0, .ref l0)]) [0] rfl (E_XModel_addElement_24 hn hl h)
theorem T_XModel_addElement {n : Nat} {l0 : Nat} {l1 : Int32} {M Mf : PM} {res : qRs} (h : F_XModel_addElement n l0 l1 M = some (res, Mf)) : CT Y_XModel_addElement 3 69 [.ref l0, .int l1] M res Mf :=
  CT_of (by decide) (Nat.le_of_ble_eq_true rfl) (qHd_ne (by decide)) (fun g X ad0 => E_XModel_addElement (g := g) (X := X) (Z := (ad0, M, res, Mf, 3, 69)) (Nat.le_refl _) (Nat.le_refl _) h)
theorem d_XModel_word_0 : decode Y_XModel_word.2.1 0 = .ok (.aload_n 0, 1) := by decide +kernel
theorem d_XModel_word_1 : decode Y_XModel_word.2.1 1 = .ok (.iconst 3, 1) := by decide +kernel
theorem d_XModel_word_2 : decode Y_XModel_word.2.1 2 = .ok (.invokevirtual 122, 3) := by decide +kernel
theorem d_XModel_word_5 : decode Y_XModel_word.2.1 5 = .ok (.ireturn, 1) := by decide +kernel
def F_XModel_word (n : Nat) (l0 : Nat) (M : PM) : qO :=
  kO 0 M l0 (
  cI (F_XModel_addElement n l0 (3 : Int32) M) (fun v2 M1 =>
  some (.inl (some (.int v2)), M1)))
set_option maxHeartbeats 4000000 in
set_option maxRecDepth 100000 in
theorem E_XModel_word {g : qG} {X : qX} {Z : qZ} (hn : 4 ≤ zn Z) (hl : 91 ≤ zl Z) {n : Nat} {l0 : Nat} {M : PM} (h : F_XModel_word n l0 M = some (zr Z, zf Z)) : EW Y_XModel_word g X Z 0 [(0, .ref l0)] [] M := by
  unfold F_XModel_word at h
  refine ew_aload_n 0 d_XModel_word_0 rfl rfl ?_
  refine ew_iconst (3) d_XModel_word_1 (by decide) ?_
  obtain ⟨kM1, h⟩ := kO_inv h
  obtain ⟨v2, M1, hM1, h⟩ := cI_inv h
  refine ew_callV 0 [.int (3 : Int32)] d_XModel_word_2 cv_XModel_122 (T_XModel_addElement hM1) kM1 (Nat.le_trans (Nat.le_of_ble_eq_true rfl) hn) (Nat.le_trans (Nat.le_of_ble_eq_true rfl) hl) (Nat.le_of_ble_eq_true rfl) rfl rfl ?_
  obtain ⟨hz, hm⟩ := Prod.mk.inj (Option.some.inj h)
  exact ew_ireturn d_XModel_word_5 rfl hz.symm hm.symm
theorem T_XModel_word {n : Nat} {l0 : Nat} {M Mf : PM} {res : qRs} (h : F_XModel_word n l0 M = some (res, Mf)) : CT Y_XModel_word 4 91 [.ref l0] M res Mf :=
  CT_of (by decide) (Nat.le_of_ble_eq_true rfl) (qHd_ne (by decide)) (fun g X ad0 => E_XModel_word (g := g) (X := X) (Z := (ad0, M, res, Mf, 4, 91)) (Nat.le_refl _) (Nat.le_refl _) h)
theorem d_XModel_thrown_0 : decode Y_XModel_thrown.2.1 0 = .ok (.aload_n 0, 1) := by decide +kernel
theorem d_XModel_thrown_1 : decode Y_XModel_thrown.2.1 1 = .ok (.getfield 87, 3) := by decide +kernel
theorem d_XModel_thrown_4 : decode Y_XModel_thrown.2.1 4 = .ok (.ireturn, 1) := by decide +kernel
def F_XModel_thrown (n : Nat) (l0 : Nat) (M : PM) : qO :=
  gI 0 M l0 0 (fun v1 =>
  some (.inl (some (.int v1)), M))
set_option maxHeartbeats 4000000 in
set_option maxRecDepth 100000 in
theorem E_XModel_thrown {g : qG} {X : qX} {Z : qZ} (hn : 0 ≤ zn Z) (hl : 0 ≤ zl Z) {n : Nat} {l0 : Nat} {M : PM} (h : F_XModel_thrown n l0 M = some (zr Z, zf Z)) : EW Y_XModel_thrown g X Z 0 [(0, .ref l0)] [] M := by
  unfold F_XModel_thrown at h
  refine ew_aload_n 0 d_XModel_thrown_0 rfl rfl ?_
  obtain ⟨v1, av1, bv1, h⟩ := gI_inv h
  refine ew_gI 0 0 d_XModel_thrown_1 fl_XModel_87 av1 bv1 ?_
  obtain ⟨hz, hm⟩ := Prod.mk.inj (Option.some.inj h)
  exact ew_ireturn d_XModel_thrown_4 rfl hz.symm hm.symm
theorem T_XModel_thrown {n : Nat} {l0 : Nat} {M Mf : PM} {res : qRs} (h : F_XModel_thrown n l0 M = some (res, Mf)) : CT Y_XModel_thrown 0 0 [.ref l0] M res Mf :=
  CT_of (by decide) (Nat.le_of_ble_eq_true rfl) (qHd_ne (by decide)) (fun g X ad0 => E_XModel_thrown (g := g) (X := X) (Z := (ad0, M, res, Mf, 0, 0)) (Nat.le_refl _) (Nat.le_refl _) h)
theorem d_XModel_truth_0 : decode Y_XModel_truth.2.1 0 = .ok (.aload_n 0, 1) := by decide +kernel
theorem d_XModel_truth_1 : decode Y_XModel_truth.2.1 1 = .ok (.iconst 4, 1) := by decide +kernel
theorem d_XModel_truth_2 : decode Y_XModel_truth.2.1 2 = .ok (.invokevirtual 122, 3) := by decide +kernel
theorem d_XModel_truth_5 : decode Y_XModel_truth.2.1 5 = .ok (.ireturn, 1) := by decide +kernel
def F_XModel_truth (n : Nat) (l0 : Nat) (M : PM) : qO :=
  kO 0 M l0 (
  cI (F_XModel_addElement n l0 (4 : Int32) M) (fun v2 M1 =>
  some (.inl (some (.int v2)), M1)))
set_option maxHeartbeats 4000000 in
set_option maxRecDepth 100000 in
theorem E_XModel_truth {g : qG} {X : qX} {Z : qZ} (hn : 4 ≤ zn Z) (hl : 91 ≤ zl Z) {n : Nat} {l0 : Nat} {M : PM} (h : F_XModel_truth n l0 M = some (zr Z, zf Z)) : EW Y_XModel_truth g X Z 0 [(0, .ref l0)] [] M := by
  unfold F_XModel_truth at h
  refine ew_aload_n 0 d_XModel_truth_0 rfl rfl ?_
  refine ew_iconst (4) d_XModel_truth_1 (by decide) ?_
  obtain ⟨kM1, h⟩ := kO_inv h
  obtain ⟨v2, M1, hM1, h⟩ := cI_inv h
  refine ew_callV 0 [.int (4 : Int32)] d_XModel_truth_2 cv_XModel_122 (T_XModel_addElement hM1) kM1 (Nat.le_trans (Nat.le_of_ble_eq_true rfl) hn) (Nat.le_trans (Nat.le_of_ble_eq_true rfl) hl) (Nat.le_of_ble_eq_true rfl) rfl rfl ?_
  obtain ⟨hz, hm⟩ := Prod.mk.inj (Option.some.inj h)
  exact ew_ireturn d_XModel_truth_5 rfl hz.symm hm.symm
theorem T_XModel_truth {n : Nat} {l0 : Nat} {M Mf : PM} {res : qRs} (h : F_XModel_truth n l0 M = some (res, Mf)) : CT Y_XModel_truth 4 91 [.ref l0] M res Mf :=
  CT_of (by decide) (Nat.le_of_ble_eq_true rfl) (qHd_ne (by decide)) (fun g X ad0 => E_XModel_truth (g := g) (X := X) (Z := (ad0, M, res, Mf, 4, 91)) (Nat.le_refl _) (Nat.le_refl _) h)
theorem d_XModel_within_0 : decode Y_XModel_within.2.1 0 = .ok (.iload_n 0, 1) := by decide +kernel
theorem d_XModel_within_1 : decode Y_XModel_within.2.1 1 = .ok (.iload_n 1, 1) := by decide +kernel
theorem d_XModel_within_2 : decode Y_XModel_within.2.1 2 = .ok (.if_icmp .lt (12), 3) := by decide +kernel
theorem d_XModel_within_5 : decode Y_XModel_within.2.1 5 = .ok (.iload_n 0, 1) := by decide +kernel
theorem d_XModel_within_6 : decode Y_XModel_within.2.1 6 = .ok (.iload_n 2, 1) := by decide +kernel
theorem d_XModel_within_7 : decode Y_XModel_within.2.1 7 = .ok (.if_icmp .gt (7), 3) := by decide +kernel
theorem d_XModel_within_10 : decode Y_XModel_within.2.1 10 = .ok (.iconst 1, 1) := by decide +kernel
theorem d_XModel_within_11 : decode Y_XModel_within.2.1 11 = .ok (.goto (4), 3) := by decide +kernel
theorem d_XModel_within_14 : decode Y_XModel_within.2.1 14 = .ok (.iconst 0, 1) := by decide +kernel
theorem d_XModel_within_15 : decode Y_XModel_within.2.1 15 = .ok (.ireturn, 1) := by decide +kernel
def F_XModel_within_15 (n : Nat) (s0 : Int32) (M : PM) : qO :=
  rZ s0 M
set_option maxHeartbeats 4000000 in
set_option maxRecDepth 100000 in
theorem E_XModel_within_15 {g : qG} {X : qX} {Z : qZ} (hn : 0 ≤ zn Z) (hl : 0 ≤ zl Z) {n : Nat} {s0 : Int32} {M : PM} (h : F_XModel_within_15 n s0 M = some (zr Z, zf Z)) : EW Y_XModel_within g X Z 15 [] [.int s0] M := by
  unfold F_XModel_within_15 at h
  obtain ⟨hb, h⟩ := rZ_inv h
  obtain ⟨hz, hm⟩ := Prod.mk.inj (Option.some.inj h)
  exact ew_zreturn d_XModel_within_15 rfl hz.symm hm.symm hb
def F_XModel_within_14 (n : Nat) (M : PM) : qO :=
  F_XModel_within_15 n (0 : Int32) M
set_option maxHeartbeats 4000000 in
set_option maxRecDepth 100000 in
theorem E_XModel_within_14 {g : qG} {X : qX} {Z : qZ} (hn : 0 ≤ zn Z) (hl : 0 ≤ zl Z) {n : Nat} {M : PM} (h : F_XModel_within_14 n M = some (zr Z, zf Z)) : EW Y_XModel_within g X Z 14 [] [] M := by
  unfold F_XModel_within_14 at h
  refine ew_iconst (0) d_XModel_within_14 (by decide) ?_
  exact E_XModel_within_15 hn hl h
def F_XModel_within (n : Nat) (l0 : Int32) (l1 : Int32) (l2 : Int32) (M : PM) : qO :=
  if l0 < l1 then
    F_XModel_within_14 n M
  else
    if l2 < l0 then
      F_XModel_within_14 n M
    else
      F_XModel_within_15 n (1 : Int32) M
set_option maxHeartbeats 4000000 in
set_option maxRecDepth 100000 in
theorem E_XModel_within {g : qG} {X : qX} {Z : qZ} (hn : 0 ≤ zn Z) (hl : 0 ≤ zl Z) {n : Nat} {l0 : Int32} {l1 : Int32} {l2 : Int32} {M : PM} (h : F_XModel_within n l0 l1 l2 M = some (zr Z, zf Z)) : EW Y_XModel_within g X Z 0 [(0, .int l0), (1, .int l1), (2, .int l2)] [] M := by
  unfold F_XModel_within at h
  refine ew_iload_n 0 d_XModel_within_0 rfl rfl ?_
  refine ew_iload_n 1 d_XModel_within_1 rfl rfl ?_
  refine ew_icmp_lt 14 d_XModel_within_2 (by decide) (fun c1 => ?_) (fun c1 => ?_)
  · rw [if_pos c1] at h
    exact ew_pick (L' := []) [] rfl (E_XModel_within_14 hn hl h)
  · rw [if_neg c1] at h
    refine ew_iload_n 0 d_XModel_within_5 rfl rfl ?_
    refine ew_iload_n 2 d_XModel_within_6 rfl rfl ?_
    refine ew_icmp_gt 14 d_XModel_within_7 (by decide) (fun c2 => ?_) (fun c2 => ?_)
    · rw [if_pos c2] at h
      exact ew_pick (L' := []) [] rfl (E_XModel_within_14 hn hl h)
    · rw [if_neg c2] at h
      refine ew_iconst (1) d_XModel_within_10 (by decide) ?_
      refine ew_goto 15 d_XModel_within_11 (by decide) ?_
      exact ew_pick (L' := []) [] rfl (E_XModel_within_15 hn hl h)
theorem T_XModel_within {n : Nat} {l0 : Int32} {l1 : Int32} {l2 : Int32} {M Mf : PM} {res : qRs} (h : F_XModel_within n l0 l1 l2 M = some (res, Mf)) : CT Y_XModel_within 0 0 [.int l0, .int l1, .int l2] M res Mf :=
  CT_of (by decide) (Nat.le_of_ble_eq_true rfl) (qHd_ne (by decide)) (fun g X ad0 => E_XModel_within (g := g) (X := X) (Z := (ad0, M, res, Mf, 0, 0)) (Nat.le_refl _) (Nat.le_refl _) h)
theorem d_XModel_isNode_0 : decode Y_XModel_isNode.2.1 0 = .ok (.iload_n 1, 1) := by decide +kernel
theorem d_XModel_isNode_1 : decode Y_XModel_isNode.2.1 1 = .ok (.iconst 0, 1) := by decide +kernel
theorem d_XModel_isNode_2 : decode Y_XModel_isNode.2.1 2 = .ok (.aload_n 0, 1) := by decide +kernel
theorem d_XModel_isNode_3 : decode Y_XModel_isNode.2.1 3 = .ok (.getfield 7, 3) := by decide +kernel
theorem d_XModel_isNode_6 : decode Y_XModel_isNode.2.1 6 = .ok (.iconst 1, 1) := by decide +kernel
theorem d_XModel_isNode_7 : decode Y_XModel_isNode.2.1 7 = .ok (.isub, 1) := by decide +kernel
theorem d_XModel_isNode_8 : decode Y_XModel_isNode.2.1 8 = .ok (.invokestatic 115, 3) := by decide +kernel
theorem d_XModel_isNode_11 : decode Y_XModel_isNode.2.1 11 = .ok (.ireturn, 1) := by decide +kernel
def F_XModel_isNode (n : Nat) (l0 : Nat) (l1 : Int32) (M : PM) : qO :=
  gI 0 M l0 1 (fun v1 =>
  cI (F_XModel_within n l1 (0 : Int32) (v1 - (1 : Int32)) M) (fun v3 M2 =>
  rZ v3 M2))
set_option maxHeartbeats 4000000 in
set_option maxRecDepth 100000 in
theorem E_XModel_isNode {g : qG} {X : qX} {Z : qZ} (hn : 1 ≤ zn Z) (hl : 22 ≤ zl Z) {n : Nat} {l0 : Nat} {l1 : Int32} {M : PM} (h : F_XModel_isNode n l0 l1 M = some (zr Z, zf Z)) : EW Y_XModel_isNode g X Z 0 [(0, .ref l0), (1, .int l1)] [] M := by
  unfold F_XModel_isNode at h
  refine ew_iload_n 1 d_XModel_isNode_0 rfl rfl ?_
  refine ew_iconst (0) d_XModel_isNode_1 (by decide) ?_
  refine ew_aload_n 0 d_XModel_isNode_2 rfl rfl ?_
  obtain ⟨v1, av1, bv1, h⟩ := gI_inv h
  refine ew_gI 0 1 d_XModel_isNode_3 fl_XModel_7 av1 bv1 ?_
  refine ew_iconst (1) d_XModel_isNode_6 (by decide) ?_
  refine ew_isub d_XModel_isNode_7 ?_
  obtain ⟨v3, M2, hM2, h⟩ := cI_inv h
  refine ew_callS [.int l1, .int (0 : Int32), .int (v1 - (1 : Int32))] d_XModel_isNode_8 cs_XModel_115 (T_XModel_within hM2) (Nat.le_trans (Nat.le_of_ble_eq_true rfl) hn) (Nat.le_trans (Nat.le_of_ble_eq_true rfl) hl) (Nat.le_of_ble_eq_true rfl) rfl rfl ?_
  obtain ⟨hb, h⟩ := rZ_inv h
  obtain ⟨hz, hm⟩ := Prod.mk.inj (Option.some.inj h)
  exact ew_zreturn d_XModel_isNode_11 rfl hz.symm hm.symm hb
theorem T_XModel_isNode {n : Nat} {l0 : Nat} {l1 : Int32} {M Mf : PM} {res : qRs} (h : F_XModel_isNode n l0 l1 M = some (res, Mf)) : CT Y_XModel_isNode 1 22 [.ref l0, .int l1] M res Mf :=
  CT_of (by decide) (Nat.le_of_ble_eq_true rfl) (qHd_ne (by decide)) (fun g X ad0 => E_XModel_isNode (g := g) (X := X) (Z := (ad0, M, res, Mf, 1, 22)) (Nat.le_refl _) (Nat.le_refl _) h)
