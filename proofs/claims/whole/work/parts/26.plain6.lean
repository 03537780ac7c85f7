theorem d_XSearch_reckonLevel_0 : decode Y_XSearch_reckonLevel.2.1 0 = .ok (.aload_n 0, 1) := by decide +kernel
theorem d_XSearch_reckonLevel_1 : decode Y_XSearch_reckonLevel.2.1 1 = .ok (.getfield 44, 3) := by decide +kernel
theorem d_XSearch_reckonLevel_4 : decode Y_XSearch_reckonLevel.2.1 4 = .ok (.iload_n 1, 1) := by decide +kernel
theorem d_XSearch_reckonLevel_5 : decode Y_XSearch_reckonLevel.2.1 5 = .ok (.iaload, 1) := by decide +kernel
theorem d_XSearch_reckonLevel_6 : decode Y_XSearch_reckonLevel.2.1 6 = .ok (.istore_n 2, 1) := by decide +kernel
theorem d_XSearch_reckonLevel_7 : decode Y_XSearch_reckonLevel.2.1 7 = .ok (.iload_n 2, 1) := by decide +kernel
theorem d_XSearch_reckonLevel_8 : decode Y_XSearch_reckonLevel.2.1 8 = .ok (.aload_n 0, 1) := by decide +kernel
theorem d_XSearch_reckonLevel_9 : decode Y_XSearch_reckonLevel.2.1 9 = .ok (.getfield 44, 3) := by decide +kernel
theorem d_XSearch_reckonLevel_12 : decode Y_XSearch_reckonLevel.2.1 12 = .ok (.iload_n 1, 1) := by decide +kernel
theorem d_XSearch_reckonLevel_13 : decode Y_XSearch_reckonLevel.2.1 13 = .ok (.iconst 1, 1) := by decide +kernel
theorem d_XSearch_reckonLevel_14 : decode Y_XSearch_reckonLevel.2.1 14 = .ok (.iadd, 1) := by decide +kernel
theorem d_XSearch_reckonLevel_15 : decode Y_XSearch_reckonLevel.2.1 15 = .ok (.iaload, 1) := by decide +kernel
theorem d_XSearch_reckonLevel_16 : decode Y_XSearch_reckonLevel.2.1 16 = .ok (.if_icmp .ge (22), 3) := by decide +kernel
theorem d_XSearch_reckonLevel_19 : decode Y_XSearch_reckonLevel.2.1 19 = .ok (.aload_n 0, 1) := by decide +kernel
theorem d_XSearch_reckonLevel_20 : decode Y_XSearch_reckonLevel.2.1 20 = .ok (.getfield 24, 3) := by decide +kernel
theorem d_XSearch_reckonLevel_23 : decode Y_XSearch_reckonLevel.2.1 23 = .ok (.aload_n 0, 1) := by decide +kernel
theorem d_XSearch_reckonLevel_24 : decode Y_XSearch_reckonLevel.2.1 24 = .ok (.getfield 41, 3) := by decide +kernel
theorem d_XSearch_reckonLevel_27 : decode Y_XSearch_reckonLevel.2.1 27 = .ok (.iload_n 2, 1) := by decide +kernel
theorem d_XSearch_reckonLevel_28 : decode Y_XSearch_reckonLevel.2.1 28 = .ok (.iaload, 1) := by decide +kernel
theorem d_XSearch_reckonLevel_29 : decode Y_XSearch_reckonLevel.2.1 29 = .ok (.invokevirtual 165, 3) := by decide +kernel
theorem d_XSearch_reckonLevel_32 : decode Y_XSearch_reckonLevel.2.1 32 = .ok (.iinc 2 (1), 3) := by decide +kernel
theorem d_XSearch_reckonLevel_35 : decode Y_XSearch_reckonLevel.2.1 35 = .ok (.goto (-28), 3) := by decide +kernel
theorem d_XSearch_reckonLevel_38 : decode Y_XSearch_reckonLevel.2.1 38 = .ok (.return_, 1) := by decide +kernel
def F_XSearch_reckonLevel_7 (n : Nat) : Nat → Nat → Int32 → Int32 → PM → qO
  | 0, _, _, _, _ => none
  | f + 1, l0, l1, l2, M =>
    gR 8 M l0 8 (fun v1 =>
    lI M v1 (l1 + (1 : Int32)) (fun v2 =>
    if v2 ≤ l2 then
      some (.inl none, M)
    else
      gR 8 M l0 2 (fun v4 =>
      gR 8 M l0 7 (fun v5 =>
      lI M v5 l2 (fun v6 =>
      kO 5 M v4 (
      cV (F_XPlanes_reckon n v4 v6 M) (fun M7 =>
      bI (l2 + (1 : Int32)) (fun v8 =>
      (F_XSearch_reckonLevel_7 n f) l0 l1 v8 M7))))))))
set_option maxHeartbeats 4000000 in
set_option maxRecDepth 100000 in
theorem E_XSearch_reckonLevel_7 {g : qG} {X : qX} {Z : qZ} (hn : 2 ≤ zn Z) (hl : 48 ≤ zl Z) {n : Nat} : ∀ (f : Nat) (l0 : Nat) (l1 : Int32) (l2 : Int32) (M : PM), F_XSearch_reckonLevel_7 n f l0 l1 l2 M = some (zr Z, zf Z) → EW Y_XSearch_reckonLevel g X Z 7 [(0, .ref l0), (1, .int l1), (2, .int l2)] [] M := by
  intro f
  induction f with
  | zero => intro l0 l1 l2 M h; rw [F_XSearch_reckonLevel_7] at h; cases h
  | succ f ih =>
    intro l0 l1 l2 M h
    rw [F_XSearch_reckonLevel_7] at h
    refine ew_iload_n 2 d_XSearch_reckonLevel_7 rfl rfl ?_
    refine ew_aload_n 0 d_XSearch_reckonLevel_8 rfl rfl ?_
    obtain ⟨v1, av1, bv1, h⟩ := gR_inv h
    refine ew_gR 8 8 d_XSearch_reckonLevel_9 fl_XSearch_44 av1 bv1 ?_
    refine ew_iload_n 1 d_XSearch_reckonLevel_12 rfl rfl ?_
    refine ew_iconst (1) d_XSearch_reckonLevel_13 (by decide) ?_
    refine ew_iadd d_XSearch_reckonLevel_14 ?_
    obtain ⟨v2, av2, bv2, cv2, ev2, h⟩ := lI_inv h
    refine ew_lI d_XSearch_reckonLevel_15 av2 bv2 cv2 ev2 ?_
    refine ew_icmp_ge 38 d_XSearch_reckonLevel_16 (by decide) (fun c3 => ?_) (fun c3 => ?_)
    · rw [if_pos c3] at h
      obtain ⟨hz, hm⟩ := Prod.mk.inj (Option.some.inj h)
      exact ew_return d_XSearch_reckonLevel_38 rfl hz.symm hm.symm
    · rw [if_neg c3] at h
      refine ew_aload_n 0 d_XSearch_reckonLevel_19 rfl rfl ?_
      obtain ⟨v4, av4, bv4, h⟩ := gR_inv h
      refine ew_gR 8 2 d_XSearch_reckonLevel_20 fl_XSearch_24 av4 bv4 ?_
      refine ew_aload_n 0 d_XSearch_reckonLevel_23 rfl rfl ?_
      obtain ⟨v5, av5, bv5, h⟩ := gR_inv h
      refine ew_gR 8 7 d_XSearch_reckonLevel_24 fl_XSearch_41 av5 bv5 ?_
      refine ew_iload_n 2 d_XSearch_reckonLevel_27 rfl rfl ?_
      obtain ⟨v6, av6, bv6, cv6, ev6, h⟩ := lI_inv h
      refine ew_lI d_XSearch_reckonLevel_28 av6 bv6 cv6 ev6 ?_
      obtain ⟨kM7, h⟩ := kO_inv h
      obtain ⟨M7, hM7, h⟩ := cV_inv h
      refine ew_callV 5 [.int v6] d_XSearch_reckonLevel_29 cv_XSearch_165 (T_XPlanes_reckon hM7) kM7 (Nat.le_trans (Nat.le_of_ble_eq_true rfl) hn) (Nat.le_trans (Nat.le_of_ble_eq_true rfl) hl) (Nat.le_of_ble_eq_true rfl) rfl rfl ?_
      obtain ⟨v8, ev8, h⟩ := bI_inv h
      refine ew_iinc (L' := [(0, .ref l0), (1, .int l1), (2, .int v8)]) v8 [1, 2, 0] d_XSearch_reckonLevel_32 rfl (by rw [ev8]; rfl) (by decide) rfl ?_
      refine ew_goto 7 d_XSearch_reckonLevel_35 (by decide) ?_
      exact ih l0 l1 v8 M7 h
def F_XSearch_reckonLevel (n : Nat) (l0 : Nat) (l1 : Int32) (M : PM) : qO :=
  gR 8 M l0 8 (fun v1 =>
  lI M v1 l1 (fun v2 =>
  F_XSearch_reckonLevel_7 n n l0 l1 v2 M))
set_option maxHeartbeats 4000000 in
set_option maxRecDepth 100000 in
theorem E_XSearch_reckonLevel {g : qG} {X : qX} {Z : qZ} (hn : 2 ≤ zn Z) (hl : 48 ≤ zl Z) {n : Nat} {l0 : Nat} {l1 : Int32} {M : PM} (h : F_XSearch_reckonLevel n l0 l1 M = some (zr Z, zf Z)) : EW Y_XSearch_reckonLevel g X Z 0 [(0, .ref l0), (1, .int l1)] [] M := by
  unfold F_XSearch_reckonLevel at h
  refine ew_aload_n 0 d_XSearch_reckonLevel_0 rfl rfl ?_
  obtain ⟨v1, av1, bv1, h⟩ := gR_inv h
  refine ew_gR 8 8 d_XSearch_reckonLevel_1 fl_XSearch_44 av1 bv1 ?_
  refine ew_iload_n 1 d_XSearch_reckonLevel_4 rfl rfl ?_
  obtain ⟨v2, av2, bv2, cv2, ev2, h⟩ := lI_inv h
  refine ew_lI d_XSearch_reckonLevel_5 av2 bv2 cv2 ev2 ?_
  refine ew_istore_n (L' := [(0, .ref l0), (1, .int l1), (2, .int v2)]) 2 [1, 2, 0] d_XSearch_reckonLevel_6 rfl (by decide) rfl ?_
  exact E_XSearch_reckonLevel_7 hn hl n l0 l1 v2 M h
theorem T_XSearch_reckonLevel {n : Nat} {l0 : Nat} {l1 : Int32} {M Mf : PM} {res : qRs} (h : F_XSearch_reckonLevel n l0 l1 M = some (res, Mf)) : CT Y_XSearch_reckonLevel 2 48 [.ref l0, .int l1] M res Mf :=
  CT_of (by decide) (Nat.le_of_ble_eq_true rfl) (qHd_ne (by decide)) (fun g X ad0 => E_XSearch_reckonLevel (g := g) (X := X) (Z := (ad0, M, res, Mf, 2, 48)) (Nat.le_refl _) (Nat.le_refl _) h)
theorem d_XSearch_statesBelow_0 : decode Y_XSearch_statesBelow.2.1 0 = .ok (.iload_n 0, 1) := by decide +kernel
theorem d_XSearch_statesBelow_1 : decode Y_XSearch_statesBelow.2.1 1 = .ok (.bipush (64), 2) := by decide +kernel
theorem d_XSearch_statesBelow_3 : decode Y_XSearch_statesBelow.2.1 3 = .ok (.if_icmp .lt (9), 3) := by decide +kernel
theorem d_XSearch_statesBelow_6 : decode Y_XSearch_statesBelow.2.1 6 = .ok (.ldc2_w 159, 3) := by decide +kernel
theorem d_XSearch_statesBelow_9 : decode Y_XSearch_statesBelow.2.1 9 = .ok (.goto (8), 3) := by decide +kernel
theorem d_XSearch_statesBelow_12 : decode Y_XSearch_statesBelow.2.1 12 = .ok (.lconst 1, 1) := by decide +kernel
theorem d_XSearch_statesBelow_13 : decode Y_XSearch_statesBelow.2.1 13 = .ok (.iload_n 0, 1) := by decide +kernel
theorem d_XSearch_statesBelow_14 : decode Y_XSearch_statesBelow.2.1 14 = .ok (.lshl, 1) := by decide +kernel
theorem d_XSearch_statesBelow_15 : decode Y_XSearch_statesBelow.2.1 15 = .ok (.lconst 1, 1) := by decide +kernel
theorem d_XSearch_statesBelow_16 : decode Y_XSearch_statesBelow.2.1 16 = .ok (.lsub, 1) := by decide +kernel
theorem d_XSearch_statesBelow_17 : decode Y_XSearch_statesBelow.2.1 17 = .ok (.lreturn, 1) := by decide +kernel
def F_XSearch_statesBelow_17 (n : Nat) (s0 : Int64) (M : PM) : qO :=
  some (.inl (some (.long s0)), M)
set_option maxHeartbeats 4000000 in
set_option maxRecDepth 100000 in
theorem E_XSearch_statesBelow_17 {g : qG} {X : qX} {Z : qZ} (hn : 0 ≤ zn Z) (hl : 0 ≤ zl Z) {n : Nat} {s0 : Int64} {M : PM} (h : F_XSearch_statesBelow_17 n s0 M = some (zr Z, zf Z)) : EW Y_XSearch_statesBelow g X Z 17 [] [.long s0] M := by
  unfold F_XSearch_statesBelow_17 at h
  obtain ⟨hz, hm⟩ := Prod.mk.inj (Option.some.inj h)
  exact ew_lreturn d_XSearch_statesBelow_17 rfl hz.symm hm.symm
def F_XSearch_statesBelow (n : Nat) (l0 : Int32) (M : PM) : qO :=
  if l0 < (64 : Int32) then
    F_XSearch_statesBelow_17 n (((1 : Int64) <<< (l0.toInt64 &&& 63)) - (1 : Int64)) M
  else
    F_XSearch_statesBelow_17 n (-1 : Int64) M
set_option maxHeartbeats 4000000 in
set_option maxRecDepth 100000 in
theorem E_XSearch_statesBelow {g : qG} {X : qX} {Z : qZ} (hn : 0 ≤ zn Z) (hl : 0 ≤ zl Z) {n : Nat} {l0 : Int32} {M : PM} (h : F_XSearch_statesBelow n l0 M = some (zr Z, zf Z)) : EW Y_XSearch_statesBelow g X Z 0 [(0, .int l0)] [] M := by
  unfold F_XSearch_statesBelow at h
  refine ew_iload_n 0 d_XSearch_statesBelow_0 rfl rfl ?_
  refine ew_bipush (64) d_XSearch_statesBelow_1 (by decide +kernel) ?_
  refine ew_icmp_lt 12 d_XSearch_statesBelow_3 (by decide) (fun c1 => ?_) (fun c1 => ?_)
  · rw [if_pos c1] at h
    refine ew_lconst 1 d_XSearch_statesBelow_12 (by decide) ?_
    refine ew_iload_n 0 d_XSearch_statesBelow_13 rfl rfl ?_
    refine ew_lshl d_XSearch_statesBelow_14 ?_
    refine ew_lconst 1 d_XSearch_statesBelow_15 (by decide) ?_
    refine ew_lsub d_XSearch_statesBelow_16 ?_
    exact ew_pick (L' := []) [] rfl (E_XSearch_statesBelow_17 hn hl h)
  · rw [if_neg c1] at h
    refine ew_ldc2 (-1) d_XSearch_statesBelow_6 ct_XSearch_159 ?_
    refine ew_goto 17 d_XSearch_statesBelow_9 (by decide) ?_
    exact ew_pick (L' := []) [] rfl (E_XSearch_statesBelow_17 hn hl h)
theorem T_XSearch_statesBelow {n : Nat} {l0 : Int32} {M Mf : PM} {res : qRs} (h : F_XSearch_statesBelow n l0 M = some (res, Mf)) : CT Y_XSearch_statesBelow 0 0 [.int l0] M res Mf :=
  CT_of (by decide) (Nat.le_of_ble_eq_true rfl) (qHd_ne (by decide)) (fun g X ad0 => E_XSearch_statesBelow (g := g) (X := X) (Z := (ad0, M, res, Mf, 0, 0)) (Nat.le_refl _) (Nat.le_refl _) h)
theorem d_XSearch_withInvariants_0 : decode Y_XSearch_withInvariants.2.1 0 = .ok (.lload_n 2, 1) := by decide +kernel
theorem d_XSearch_withInvariants_1 : decode Y_XSearch_withInvariants.2.1 1 = .ok (.lstore 4, 2) := by decide +kernel
theorem d_XSearch_withInvariants_3 : decode Y_XSearch_withInvariants.2.1 3 = .ok (.iconst 0, 1) := by decide +kernel
theorem d_XSearch_withInvariants_4 : decode Y_XSearch_withInvariants.2.1 4 = .ok (.istore 6, 2) := by decide +kernel
theorem d_XSearch_withInvariants_6 : decode Y_XSearch_withInvariants.2.1 6 = .ok (.iload 6, 2) := by decide +kernel
theorem d_XSearch_withInvariants_8 : decode Y_XSearch_withInvariants.2.1 8 = .ok (.aload_n 0, 1) := by decide +kernel
theorem d_XSearch_withInvariants_9 : decode Y_XSearch_withInvariants.2.1 9 = .ok (.getfield 15, 3) := by decide +kernel
theorem d_XSearch_withInvariants_12 : decode Y_XSearch_withInvariants.2.1 12 = .ok (.getfield 168, 3) := by decide +kernel
theorem d_XSearch_withInvariants_15 : decode Y_XSearch_withInvariants.2.1 15 = .ok (.if_icmp .ge (50), 3) := by decide +kernel
theorem d_XSearch_withInvariants_18 : decode Y_XSearch_withInvariants.2.1 18 = .ok (.aload_n 0, 1) := by decide +kernel
theorem d_XSearch_withInvariants_19 : decode Y_XSearch_withInvariants.2.1 19 = .ok (.getfield 38, 3) := by decide +kernel
theorem d_XSearch_withInvariants_22 : decode Y_XSearch_withInvariants.2.1 22 = .ok (.aload_n 0, 1) := by decide +kernel
theorem d_XSearch_withInvariants_23 : decode Y_XSearch_withInvariants.2.1 23 = .ok (.getfield 15, 3) := by decide +kernel
theorem d_XSearch_withInvariants_26 : decode Y_XSearch_withInvariants.2.1 26 = .ok (.getfield 171, 3) := by decide +kernel
theorem d_XSearch_withInvariants_29 : decode Y_XSearch_withInvariants.2.1 29 = .ok (.iload 6, 2) := by decide +kernel
theorem d_XSearch_withInvariants_31 : decode Y_XSearch_withInvariants.2.1 31 = .ok (.iaload, 1) := by decide +kernel
theorem d_XSearch_withInvariants_32 : decode Y_XSearch_withInvariants.2.1 32 = .ok (.iaload, 1) := by decide +kernel
theorem d_XSearch_withInvariants_33 : decode Y_XSearch_withInvariants.2.1 33 = .ok (.iload_n 1, 1) := by decide +kernel
theorem d_XSearch_withInvariants_34 : decode Y_XSearch_withInvariants.2.1 34 = .ok (.if_icmp .ne (25), 3) := by decide +kernel
theorem d_XSearch_withInvariants_37 : decode Y_XSearch_withInvariants.2.1 37 = .ok (.lload 4, 2) := by decide +kernel
theorem d_XSearch_withInvariants_39 : decode Y_XSearch_withInvariants.2.1 39 = .ok (.aload_n 0, 1) := by decide +kernel
theorem d_XSearch_withInvariants_40 : decode Y_XSearch_withInvariants.2.1 40 = .ok (.getfield 24, 3) := by decide +kernel
theorem d_XSearch_withInvariants_43 : decode Y_XSearch_withInvariants.2.1 43 = .ok (.aload_n 0, 1) := by decide +kernel
theorem d_XSearch_withInvariants_44 : decode Y_XSearch_withInvariants.2.1 44 = .ok (.getfield 15, 3) := by decide +kernel
theorem d_XSearch_withInvariants_47 : decode Y_XSearch_withInvariants.2.1 47 = .ok (.getfield 171, 3) := by decide +kernel
theorem d_XSearch_withInvariants_50 : decode Y_XSearch_withInvariants.2.1 50 = .ok (.iload 6, 2) := by decide +kernel
theorem d_XSearch_withInvariants_52 : decode Y_XSearch_withInvariants.2.1 52 = .ok (.iaload, 1) := by decide +kernel
theorem d_XSearch_withInvariants_53 : decode Y_XSearch_withInvariants.2.1 53 = .ok (.invokevirtual 174, 3) := by decide +kernel
theorem d_XSearch_withInvariants_56 : decode Y_XSearch_withInvariants.2.1 56 = .ok (.land, 1) := by decide +kernel
theorem d_XSearch_withInvariants_57 : decode Y_XSearch_withInvariants.2.1 57 = .ok (.lstore 4, 2) := by decide +kernel
theorem d_XSearch_withInvariants_59 : decode Y_XSearch_withInvariants.2.1 59 = .ok (.iinc 6 (1), 3) := by decide +kernel
theorem d_XSearch_withInvariants_62 : decode Y_XSearch_withInvariants.2.1 62 = .ok (.goto (-56), 3) := by decide +kernel
theorem d_XSearch_withInvariants_65 : decode Y_XSearch_withInvariants.2.1 65 = .ok (.lload 4, 2) := by decide +kernel
theorem d_XSearch_withInvariants_67 : decode Y_XSearch_withInvariants.2.1 67 = .ok (.lreturn, 1) := by decide +kernel
def F_XSearch_withInvariants_59 (n : Nat) (rec6 : Nat → Int32 → Int64 → Int32 → PM → qO) (l0 : Nat) (l1 : Int32) (l4 : Int64) (l6 : Int32) (M : PM) : qO :=
  bI (l6 + (1 : Int32)) (fun v1 =>
  rec6 l0 l1 l4 v1 M)
set_option maxHeartbeats 4000000 in
set_option maxRecDepth 100000 in
theorem E_XSearch_withInvariants_59 {g : qG} {X : qX} {Z : qZ} (hn : 1 ≤ zn Z) (hl : 21 ≤ zl Z) {n : Nat} {rec6 : Nat → Int32 → Int64 → Int32 → PM → qO} (hrec6 : ∀ (l0 : Nat) (l1 : Int32) (l4 : Int64) (l6 : Int32) (M : PM), rec6 l0 l1 l4 l6 M = some (zr Z, zf Z) → EW Y_XSearch_withInvariants g X Z 6 [(0, .ref l0), (1, .int l1), (4, .long l4), (6, .int l6)] [] M) {l0 : Nat} {l1 : Int32} {l4 : Int64} {l6 : Int32} {M : PM} (h : F_XSearch_withInvariants_59 n rec6 l0 l1 l4 l6 M = some (zr Z, zf Z)) : EW Y_XSearch_withInvariants g X Z 59 [(0, .ref l0), (1, .int l1), (4, .long l4), (6, .int l6)] [] M := by
  unfold F_XSearch_withInvariants_59 at h
  obtain ⟨v1, ev1, h⟩ := bI_inv h
  refine ew_iinc (L' := [(0, .ref l0), (1, .int l1), (4, .long l4), (6, .int v1)]) v1 [1, 2, 3, 0] d_XSearch_withInvariants_59 rfl (by rw [ev1]; rfl) (by decide) rfl ?_
  refine ew_goto 6 d_XSearch_withInvariants_62 (by decide) ?_
  exact hrec6 l0 l1 l4 v1 M h
def F_XSearch_withInvariants_6 (n : Nat) : Nat → Nat → Int32 → Int64 → Int32 → PM → qO
  | 0, _, _, _, _, _ => none
  | f + 1, l0, l1, l4, l6, M =>
    gR 8 M l0 1 (fun v1 =>
    gI 7 M v1 3 (fun v2 =>
    if v2 ≤ l6 then
      some (.inl (some (.long l4)), M)
    else
      gR 8 M l0 6 (fun v4 =>
      gR 8 M l0 1 (fun v5 =>
      gR 7 M v5 0 (fun v6 =>
      lI M v6 l6 (fun v7 =>
      lI M v4 v7 (fun v8 =>
      if v8 = l1 then
        gR 8 M l0 2 (fun v10 =>
        gR 8 M l0 1 (fun v11 =>
        gR 7 M v11 0 (fun v12 =>
        lI M v12 l6 (fun v13 =>
        kO 5 M v10 (
        cL (F_XPlanes_truthOf n v10 v13 M) (fun v15 M14 =>
        bL (l4 &&& v15) (fun v16 =>
        F_XSearch_withInvariants_59 n (F_XSearch_withInvariants_6 n f) l0 l1 v16 l6 M14)))))))
      else
        F_XSearch_withInvariants_59 n (F_XSearch_withInvariants_6 n f) l0 l1 l4 l6 M)))))))
set_option maxHeartbeats 4000000 in
set_option maxRecDepth 100000 in
theorem E_XSearch_withInvariants_6 {g : qG} {X : qX} {Z : qZ} (hn : 1 ≤ zn Z) (hl : 21 ≤ zl Z) {n : Nat} : ∀ (f : Nat) (l0 : Nat) (l1 : Int32) (l4 : Int64) (l6 : Int32) (M : PM), F_XSearch_withInvariants_6 n f l0 l1 l4 l6 M = some (zr Z, zf Z) → EW Y_XSearch_withInvariants g X Z 6 [(0, .ref l0), (1, .int l1), (4, .long l4), (6, .int l6)] [] M := by
  intro f
  induction f with
  | zero => intro l0 l1 l4 l6 M h; rw [F_XSearch_withInvariants_6] at h; cases h
  | succ f ih =>
    intro l0 l1 l4 l6 M h
    rw [F_XSearch_withInvariants_6] at h
    refine ew_iload d_XSearch_withInvariants_6 rfl ?_
    refine ew_aload_n 0 d_XSearch_withInvariants_8 rfl rfl ?_
    obtain ⟨v1, av1, bv1, h⟩ := gR_inv h
    refine ew_gR 8 1 d_XSearch_withInvariants_9 fl_XSearch_15 av1 bv1 ?_
    obtain ⟨v2, av2, bv2, h⟩ := gI_inv h
    refine ew_gI 7 3 d_XSearch_withInvariants_12 fl_XSearch_168 av2 bv2 ?_
    refine ew_icmp_ge 65 d_XSearch_withInvariants_15 (by decide) (fun c3 => ?_) (fun c3 => ?_)
    · rw [if_pos c3] at h
      refine ew_lload d_XSearch_withInvariants_65 rfl ?_
      obtain ⟨hz, hm⟩ := Prod.mk.inj (Option.some.inj h)
      exact ew_lreturn d_XSearch_withInvariants_67 rfl hz.symm hm.symm
    · rw [if_neg c3] at h
      refine ew_aload_n 0 d_XSearch_withInvariants_18 rfl rfl ?_
      obtain ⟨v4, av4, bv4, h⟩ := gR_inv h
      refine ew_gR 8 6 d_XSearch_withInvariants_19 fl_XSearch_38 av4 bv4 ?_
      refine ew_aload_n 0 d_XSearch_withInvariants_22 rfl rfl ?_
      obtain ⟨v5, av5, bv5, h⟩ := gR_inv h
      refine ew_gR 8 1 d_XSearch_withInvariants_23 fl_XSearch_15 av5 bv5 ?_
      obtain ⟨v6, av6, bv6, h⟩ := gR_inv h
      refine ew_gR 7 0 d_XSearch_withInvariants_26 fl_XSearch_171 av6 bv6 ?_
      refine ew_iload d_XSearch_withInvariants_29 rfl ?_
      obtain ⟨v7, av7, bv7, cv7, ev7, h⟩ := lI_inv h
      refine ew_lI d_XSearch_withInvariants_31 av7 bv7 cv7 ev7 ?_
      obtain ⟨v8, av8, bv8, cv8, ev8, h⟩ := lI_inv h
      refine ew_lI d_XSearch_withInvariants_32 av8 bv8 cv8 ev8 ?_
      refine ew_iload_n 1 d_XSearch_withInvariants_33 rfl rfl ?_
      refine ew_icmp_ne 59 d_XSearch_withInvariants_34 (by decide) (fun c9 => ?_) (fun c9 => ?_)
      · rw [if_neg c9] at h
        exact E_XSearch_withInvariants_59 hn hl ih h
      · rw [if_pos c9] at h
        refine ew_lload d_XSearch_withInvariants_37 rfl ?_
        refine ew_aload_n 0 d_XSearch_withInvariants_39 rfl rfl ?_
        obtain ⟨v10, av10, bv10, h⟩ := gR_inv h
        refine ew_gR 8 2 d_XSearch_withInvariants_40 fl_XSearch_24 av10 bv10 ?_
        refine ew_aload_n 0 d_XSearch_withInvariants_43 rfl rfl ?_
        obtain ⟨v11, av11, bv11, h⟩ := gR_inv h
        refine ew_gR 8 1 d_XSearch_withInvariants_44 fl_XSearch_15 av11 bv11 ?_
        obtain ⟨v12, av12, bv12, h⟩ := gR_inv h
        refine ew_gR 7 0 d_XSearch_withInvariants_47 fl_XSearch_171 av12 bv12 ?_
        refine ew_iload d_XSearch_withInvariants_50 rfl ?_
        obtain ⟨v13, av13, bv13, cv13, ev13, h⟩ := lI_inv h
        refine ew_lI d_XSearch_withInvariants_52 av13 bv13 cv13 ev13 ?_
        obtain ⟨kM14, h⟩ := kO_inv h
        obtain ⟨v15, M14, hM14, h⟩ := cL_inv h
        refine ew_callV 5 [.int v13] d_XSearch_withInvariants_53 cv_XSearch_174 (T_XPlanes_truthOf hM14) kM14 (Nat.le_trans (Nat.le_of_ble_eq_true rfl) hn) (Nat.le_trans (Nat.le_of_ble_eq_true rfl) hl) (Nat.le_of_ble_eq_true rfl) rfl rfl ?_
        refine ew_land d_XSearch_withInvariants_56 ?_
        obtain ⟨v16, ev16, h⟩ := bL_inv h
        refine ew_topL ev16 ?_
        refine ew_lstore (L' := [(0, .ref l0), (1, .int l1), (4, .long v16), (6, .int l6)]) [1, 2, 0, 3] d_XSearch_withInvariants_57 (by decide) rfl ?_
        exact E_XSearch_withInvariants_59 hn hl ih h
def F_XSearch_withInvariants (n : Nat) (l0 : Nat) (l1 : Int32) (l2 : Int64) (M : PM) : qO :=
  F_XSearch_withInvariants_6 n n l0 l1 l2 (0 : Int32) M
set_option maxHeartbeats 4000000 in
set_option maxRecDepth 100000 in
theorem E_XSearch_withInvariants {g : qG} {X : qX} {Z : qZ} (hn : 1 ≤ zn Z) (hl : 21 ≤ zl Z) {n : Nat} {l0 : Nat} {l1 : Int32} {l2 : Int64} {M : PM} (h : F_XSearch_withInvariants n l0 l1 l2 M = some (zr Z, zf Z)) : EW Y_XSearch_withInvariants g X Z 0 [(0, .ref l0), (1, .int l1), (2, .long l2)] [] M := by
  unfold F_XSearch_withInvariants at h
  refine ew_lload_n 2 d_XSearch_withInvariants_0 rfl rfl ?_
  refine ew_lstore (L' := [(0, .ref l0), (1, .int l1), (2, .long l2), (4, .long l2)]) [1, 2, 3, 0] d_XSearch_withInvariants_1 (by decide) rfl ?_
  refine ew_iconst (0) d_XSearch_withInvariants_3 (by decide) ?_
  refine ew_istore (L' := [(0, .ref l0), (1, .int l1), (2, .long l2), (4, .long l2), (6, .int (0 : Int32))]) [1, 2, 3, 4, 0] d_XSearch_withInvariants_4 (by decide) rfl ?_
  exact ew_pick (L' := [(0, .ref l0), (1, .int l1), (4, .long l2), (6, .int (0 : Int32))]) [0, 1, 3, 4] rfl (E_XSearch_withInvariants_6 hn hl n l0 l1 l2 (0 : Int32) M h)
theorem T_XSearch_withInvariants {n : Nat} {l0 : Nat} {l1 : Int32} {l2 : Int64} {M Mf : PM} {res : qRs} (h : F_XSearch_withInvariants n l0 l1 l2 M = some (res, Mf)) : CT Y_XSearch_withInvariants 1 21 [.ref l0, .int l1, .long l2] M res Mf :=
  CT_of (by decide) (Nat.le_of_ble_eq_true rfl) (qHd_ne (by decide)) (fun g X ad0 => E_XSearch_withInvariants (g := g) (X := X) (Z := (ad0, M, res, Mf, 1, 21)) (Nat.le_refl _) (Nat.le_refl _) h)
theorem d_JLong_bitCount_0 : decode Y_JLong_bitCount.2.1 0 = .ok (.lload_n 0, 1) := by decide +kernel
theorem d_JLong_bitCount_1 : decode Y_JLong_bitCount.2.1 1 = .ok (.lload_n 0, 1) := by decide +kernel
theorem d_JLong_bitCount_2 : decode Y_JLong_bitCount.2.1 2 = .ok (.iconst 1, 1) := by decide +kernel
theorem d_JLong_bitCount_3 : decode Y_JLong_bitCount.2.1 3 = .ok (.lushr, 1) := by decide +kernel
theorem d_JLong_bitCount_4 : decode Y_JLong_bitCount.2.1 4 = .ok (.ldc2_w 314, 3) := by decide +kernel
theorem d_JLong_bitCount_7 : decode Y_JLong_bitCount.2.1 7 = .ok (.land, 1) := by decide +kernel
theorem d_JLong_bitCount_8 : decode Y_JLong_bitCount.2.1 8 = .ok (.lsub, 1) := by decide +kernel
theorem d_JLong_bitCount_9 : decode Y_JLong_bitCount.2.1 9 = .ok (.lstore_n 0, 1) := by decide +kernel
theorem d_JLong_bitCount_10 : decode Y_JLong_bitCount.2.1 10 = .ok (.lload_n 0, 1) := by decide +kernel
theorem d_JLong_bitCount_11 : decode Y_JLong_bitCount.2.1 11 = .ok (.ldc2_w 316, 3) := by decide +kernel
theorem d_JLong_bitCount_14 : decode Y_JLong_bitCount.2.1 14 = .ok (.land, 1) := by decide +kernel
theorem d_JLong_bitCount_15 : decode Y_JLong_bitCount.2.1 15 = .ok (.lload_n 0, 1) := by decide +kernel
theorem d_JLong_bitCount_16 : decode Y_JLong_bitCount.2.1 16 = .ok (.iconst 2, 1) := by decide +kernel
theorem d_JLong_bitCount_17 : decode Y_JLong_bitCount.2.1 17 = .ok (.lushr, 1) := by decide +kernel
theorem d_JLong_bitCount_18 : decode Y_JLong_bitCount.2.1 18 = .ok (.ldc2_w 316, 3) := by decide +kernel
theorem d_JLong_bitCount_21 : decode Y_JLong_bitCount.2.1 21 = .ok (.land, 1) := by decide +kernel
theorem d_JLong_bitCount_22 : decode Y_JLong_bitCount.2.1 22 = .ok (.ladd, 1) := by decide +kernel
theorem d_JLong_bitCount_23 : decode Y_JLong_bitCount.2.1 23 = .ok (.lstore_n 0, 1) := by decide +kernel
theorem d_JLong_bitCount_24 : decode Y_JLong_bitCount.2.1 24 = .ok (.lload_n 0, 1) := by decide +kernel
theorem d_JLong_bitCount_25 : decode Y_JLong_bitCount.2.1 25 = .ok (.lload_n 0, 1) := by decide +kernel
theorem d_JLong_bitCount_26 : decode Y_JLong_bitCount.2.1 26 = .ok (.iconst 4, 1) := by decide +kernel
theorem d_JLong_bitCount_27 : decode Y_JLong_bitCount.2.1 27 = .ok (.lushr, 1) := by decide +kernel
theorem d_JLong_bitCount_28 : decode Y_JLong_bitCount.2.1 28 = .ok (.ladd, 1) := by decide +kernel
theorem d_JLong_bitCount_29 : decode Y_JLong_bitCount.2.1 29 = .ok (.ldc2_w 318, 3) := by decide +kernel
theorem d_JLong_bitCount_32 : decode Y_JLong_bitCount.2.1 32 = .ok (.land, 1) := by decide +kernel
theorem d_JLong_bitCount_33 : decode Y_JLong_bitCount.2.1 33 = .ok (.lstore_n 0, 1) := by decide +kernel
theorem d_JLong_bitCount_34 : decode Y_JLong_bitCount.2.1 34 = .ok (.lload_n 0, 1) := by decide +kernel
theorem d_JLong_bitCount_35 : decode Y_JLong_bitCount.2.1 35 = .ok (.lload_n 0, 1) := by decide +kernel
theorem d_JLong_bitCount_36 : decode Y_JLong_bitCount.2.1 36 = .ok (.bipush (8), 2) := by decide +kernel
theorem d_JLong_bitCount_38 : decode Y_JLong_bitCount.2.1 38 = .ok (.lushr, 1) := by decide +kernel
theorem d_JLong_bitCount_39 : decode Y_JLong_bitCount.2.1 39 = .ok (.ladd, 1) := by decide +kernel
theorem d_JLong_bitCount_40 : decode Y_JLong_bitCount.2.1 40 = .ok (.lstore_n 0, 1) := by decide +kernel
theorem d_JLong_bitCount_41 : decode Y_JLong_bitCount.2.1 41 = .ok (.lload_n 0, 1) := by decide +kernel
theorem d_JLong_bitCount_42 : decode Y_JLong_bitCount.2.1 42 = .ok (.lload_n 0, 1) := by decide +kernel
theorem d_JLong_bitCount_43 : decode Y_JLong_bitCount.2.1 43 = .ok (.bipush (16), 2) := by decide +kernel
theorem d_JLong_bitCount_45 : decode Y_JLong_bitCount.2.1 45 = .ok (.lushr, 1) := by decide +kernel
theorem d_JLong_bitCount_46 : decode Y_JLong_bitCount.2.1 46 = .ok (.ladd, 1) := by decide +kernel
theorem d_JLong_bitCount_47 : decode Y_JLong_bitCount.2.1 47 = .ok (.lstore_n 0, 1) := by decide +kernel
theorem d_JLong_bitCount_48 : decode Y_JLong_bitCount.2.1 48 = .ok (.lload_n 0, 1) := by decide +kernel
theorem d_JLong_bitCount_49 : decode Y_JLong_bitCount.2.1 49 = .ok (.lload_n 0, 1) := by decide +kernel
theorem d_JLong_bitCount_50 : decode Y_JLong_bitCount.2.1 50 = .ok (.bipush (32), 2) := by decide +kernel
theorem d_JLong_bitCount_52 : decode Y_JLong_bitCount.2.1 52 = .ok (.lushr, 1) := by decide +kernel
theorem d_JLong_bitCount_53 : decode Y_JLong_bitCount.2.1 53 = .ok (.ladd, 1) := by decide +kernel
theorem d_JLong_bitCount_54 : decode Y_JLong_bitCount.2.1 54 = .ok (.lstore_n 0, 1) := by decide +kernel
theorem d_JLong_bitCount_55 : decode Y_JLong_bitCount.2.1 55 = .ok (.lload_n 0, 1) := by decide +kernel
theorem d_JLong_bitCount_56 : decode Y_JLong_bitCount.2.1 56 = .ok (.l2i, 1) := by decide +kernel
theorem d_JLong_bitCount_57 : decode Y_JLong_bitCount.2.1 57 = .ok (.bipush (127), 2) := by decide +kernel
theorem d_JLong_bitCount_59 : decode Y_JLong_bitCount.2.1 59 = .ok (.iand, 1) := by decide +kernel
theorem d_JLong_bitCount_60 : decode Y_JLong_bitCount.2.1 60 = .ok (.ireturn, 1) := by decide +kernel
def F_JLong_bitCount (n : Nat) (l0 : Int64) (M : PM) : qO :=
  bL (l0 - (((l0.toUInt64 >>> ((1 : Int32).toInt64.toUInt64 &&& Int64.toUInt64 63)).toInt64) &&& (6148914691236517205 : Int64))) (fun v1 =>
  bL ((v1 &&& (3689348814741910323 : Int64)) + (((v1.toUInt64 >>> ((2 : Int32).toInt64.toUInt64 &&& Int64.toUInt64 63)).toInt64) &&& (3689348814741910323 : Int64))) (fun v2 =>
  bL ((v2 + ((v2.toUInt64 >>> ((4 : Int32).toInt64.toUInt64 &&& Int64.toUInt64 63)).toInt64)) &&& (1085102592571150095 : Int64)) (fun v3 =>
  bL (v3 + ((v3.toUInt64 >>> ((8 : Int32).toInt64.toUInt64 &&& Int64.toUInt64 63)).toInt64)) (fun v4 =>
  bL (v4 + ((v4.toUInt64 >>> ((16 : Int32).toInt64.toUInt64 &&& Int64.toUInt64 63)).toInt64)) (fun v5 =>
  bL (v5 + ((v5.toUInt64 >>> ((32 : Int32).toInt64.toUInt64 &&& Int64.toUInt64 63)).toInt64)) (fun v6 =>
  some (.inl (some (.int (v6.toInt32 &&& (127 : Int32)))), M)))))))
set_option maxHeartbeats 4000000 in
set_option maxRecDepth 100000 in
theorem E_JLong_bitCount {g : qG} {X : qX} {Z : qZ} (hn : 0 ≤ zn Z) (hl : 0 ≤ zl Z) {n : Nat} {l0 : Int64} {M : PM} (h : F_JLong_bitCount n l0 M = some (zr Z, zf Z)) : EW Y_JLong_bitCount g X Z 0 [(0, .long l0)] [] M := by
  unfold F_JLong_bitCount at h
  refine ew_lload_n 0 d_JLong_bitCount_0 rfl rfl ?_
  refine ew_lload_n 0 d_JLong_bitCount_1 rfl rfl ?_
  refine ew_iconst (1) d_JLong_bitCount_2 (by decide) ?_
  refine ew_lushr d_JLong_bitCount_3 ?_
  refine ew_ldc2 (6148914691236517205) d_JLong_bitCount_4 ct_JLong_314 ?_
  refine ew_land d_JLong_bitCount_7 ?_
  refine ew_lsub d_JLong_bitCount_8 ?_
  obtain ⟨v1, ev1, h⟩ := bL_inv h
  refine ew_topL ev1 ?_
  refine ew_lstore_n (L' := [(0, .long v1)]) 0 [0] d_JLong_bitCount_9 rfl (by decide) rfl ?_
  refine ew_lload_n 0 d_JLong_bitCount_10 rfl rfl ?_
  refine ew_ldc2 (3689348814741910323) d_JLong_bitCount_11 ct_JLong_316 ?_
  refine ew_land d_JLong_bitCount_14 ?_
  refine ew_lload_n 0 d_JLong_bitCount_15 rfl rfl ?_
  refine ew_iconst (2) d_JLong_bitCount_16 (by decide) ?_
  refine ew_lushr d_JLong_bitCount_17 ?_
  refine ew_ldc2 (3689348814741910323) d_JLong_bitCount_18 ct_JLong_316 ?_
  refine ew_land d_JLong_bitCount_21 ?_
  refine ew_ladd d_JLong_bitCount_22 ?_
  obtain ⟨v2, ev2, h⟩ := bL_inv h
  refine ew_topL ev2 ?_
  refine ew_lstore_n (L' := [(0, .long v2)]) 0 [0] d_JLong_bitCount_23 rfl (by decide) rfl ?_
  refine ew_lload_n 0 d_JLong_bitCount_24 rfl rfl ?_
  refine ew_lload_n 0 d_JLong_bitCount_25 rfl rfl ?_
  refine ew_iconst (4) d_JLong_bitCount_26 (by decide) ?_
  refine ew_lushr d_JLong_bitCount_27 ?_
  refine ew_ladd d_JLong_bitCount_28 ?_
  refine ew_ldc2 (1085102592571150095) d_JLong_bitCount_29 ct_JLong_318 ?_
  refine ew_land d_JLong_bitCount_32 ?_
  obtain ⟨v3, ev3, h⟩ := bL_inv h
  refine ew_topL ev3 ?_
  refine ew_lstore_n (L' := [(0, .long v3)]) 0 [0] d_JLong_bitCount_33 rfl (by decide) rfl ?_
  refine ew_lload_n 0 d_JLong_bitCount_34 rfl rfl ?_
  refine ew_lload_n 0 d_JLong_bitCount_35 rfl rfl ?_
  refine ew_bipush (8) d_JLong_bitCount_36 (by decide +kernel) ?_
  refine ew_lushr d_JLong_bitCount_38 ?_
  refine ew_ladd d_JLong_bitCount_39 ?_
  obtain ⟨v4, ev4, h⟩ := bL_inv h
  refine ew_topL ev4 ?_
  refine ew_lstore_n (L' := [(0, .long v4)]) 0 [0] d_JLong_bitCount_40 rfl (by decide) rfl ?_
  refine ew_lload_n 0 d_JLong_bitCount_41 rfl rfl ?_
  refine ew_lload_n 0 d_JLong_bitCount_42 rfl rfl ?_
  refine ew_bipush (16) d_JLong_bitCount_43 (by decide +kernel) ?_
  refine ew_lushr d_JLong_bitCount_45 ?_
  refine ew_ladd d_JLong_bitCount_46 ?_
  obtain ⟨v5, ev5, h⟩ := bL_inv h
  refine ew_topL ev5 ?_
  refine ew_lstore_n (L' := [(0, .long v5)]) 0 [0] d_JLong_bitCount_47 rfl (by decide) rfl ?_
  refine ew_lload_n 0 d_JLong_bitCount_48 rfl rfl ?_
  refine ew_lload_n 0 d_JLong_bitCount_49 rfl rfl ?_
  refine ew_bipush (32) d_JLong_bitCount_50 (by decide +kernel) ?_
  refine ew_lushr d_JLong_bitCount_52 ?_
  refine ew_ladd d_JLong_bitCount_53 ?_
  obtain ⟨v6, ev6, h⟩ := bL_inv h
  refine ew_topL ev6 ?_
  refine ew_lstore_n (L' := [(0, .long v6)]) 0 [0] d_JLong_bitCount_54 rfl (by decide) rfl ?_
  refine ew_lload_n 0 d_JLong_bitCount_55 rfl rfl ?_
  refine ew_l2i d_JLong_bitCount_56 ?_
  refine ew_bipush (127) d_JLong_bitCount_57 (by decide +kernel) ?_
  refine ew_iand d_JLong_bitCount_59 ?_
  obtain ⟨hz, hm⟩ := Prod.mk.inj (Option.some.inj h)
  exact ew_ireturn d_JLong_bitCount_60 rfl hz.symm hm.symm
theorem T_JLong_bitCount {n : Nat} {l0 : Int64} {M Mf : PM} {res : qRs} (h : F_JLong_bitCount n l0 M = some (res, Mf)) : CT Y_JLong_bitCount 0 0 [.long l0] M res Mf :=
  CT_of (by decide) (Nat.le_of_ble_eq_true rfl) (qHd_ne (by decide)) (fun g X ad0 => E_JLong_bitCount (g := g) (X := X) (Z := (ad0, M, res, Mf, 0, 0)) (Nat.le_refl _) (Nat.le_refl _) h)
theorem d_XSearch_lowestClaim_0 : decode Y_XSearch_lowestClaim.2.1 0 = .ok (.iconst 0, 1) := by decide +kernel
theorem d_XSearch_lowestClaim_1 : decode Y_XSearch_lowestClaim.2.1 1 = .ok (.istore_n 2, 1) := by decide +kernel
theorem d_XSearch_lowestClaim_2 : decode Y_XSearch_lowestClaim.2.1 2 = .ok (.iload_n 2, 1) := by decide +kernel
theorem d_XSearch_lowestClaim_3 : decode Y_XSearch_lowestClaim.2.1 3 = .ok (.aload_n 0, 1) := by decide +kernel
theorem d_XSearch_lowestClaim_4 : decode Y_XSearch_lowestClaim.2.1 4 = .ok (.getfield 15, 3) := by decide +kernel
theorem d_XSearch_lowestClaim_7 : decode Y_XSearch_lowestClaim.2.1 7 = .ok (.getfield 198, 3) := by decide +kernel
theorem d_XSearch_lowestClaim_10 : decode Y_XSearch_lowestClaim.2.1 10 = .ok (.if_icmp .ge (36), 3) := by decide +kernel
theorem d_XSearch_lowestClaim_13 : decode Y_XSearch_lowestClaim.2.1 13 = .ok (.aload_n 0, 1) := by decide +kernel
theorem d_XSearch_lowestClaim_14 : decode Y_XSearch_lowestClaim.2.1 14 = .ok (.getfield 24, 3) := by decide +kernel
theorem d_XSearch_lowestClaim_17 : decode Y_XSearch_lowestClaim.2.1 17 = .ok (.aload_n 0, 1) := by decide +kernel
theorem d_XSearch_lowestClaim_18 : decode Y_XSearch_lowestClaim.2.1 18 = .ok (.getfield 15, 3) := by decide +kernel
theorem d_XSearch_lowestClaim_21 : decode Y_XSearch_lowestClaim.2.1 21 = .ok (.getfield 201, 3) := by decide +kernel
theorem d_XSearch_lowestClaim_24 : decode Y_XSearch_lowestClaim.2.1 24 = .ok (.iload_n 2, 1) := by decide +kernel
theorem d_XSearch_lowestClaim_25 : decode Y_XSearch_lowestClaim.2.1 25 = .ok (.iaload, 1) := by decide +kernel
theorem d_XSearch_lowestClaim_26 : decode Y_XSearch_lowestClaim.2.1 26 = .ok (.invokevirtual 174, 3) := by decide +kernel
theorem d_XSearch_lowestClaim_29 : decode Y_XSearch_lowestClaim.2.1 29 = .ok (.iload_n 1, 1) := by decide +kernel
theorem d_XSearch_lowestClaim_30 : decode Y_XSearch_lowestClaim.2.1 30 = .ok (.lushr, 1) := by decide +kernel
theorem d_XSearch_lowestClaim_31 : decode Y_XSearch_lowestClaim.2.1 31 = .ok (.lconst 1, 1) := by decide +kernel
theorem d_XSearch_lowestClaim_32 : decode Y_XSearch_lowestClaim.2.1 32 = .ok (.land, 1) := by decide +kernel
theorem d_XSearch_lowestClaim_33 : decode Y_XSearch_lowestClaim.2.1 33 = .ok (.lconst 1, 1) := by decide +kernel
theorem d_XSearch_lowestClaim_34 : decode Y_XSearch_lowestClaim.2.1 34 = .ok (.lcmp, 1) := by decide +kernel
theorem d_XSearch_lowestClaim_35 : decode Y_XSearch_lowestClaim.2.1 35 = .ok (.ifCond .ne (5), 3) := by decide +kernel
theorem d_XSearch_lowestClaim_38 : decode Y_XSearch_lowestClaim.2.1 38 = .ok (.iload_n 2, 1) := by decide +kernel
theorem d_XSearch_lowestClaim_39 : decode Y_XSearch_lowestClaim.2.1 39 = .ok (.ireturn, 1) := by decide +kernel
theorem d_XSearch_lowestClaim_40 : decode Y_XSearch_lowestClaim.2.1 40 = .ok (.iinc 2 (1), 3) := by decide +kernel
theorem d_XSearch_lowestClaim_43 : decode Y_XSearch_lowestClaim.2.1 43 = .ok (.goto (-41), 3) := by decide +kernel
theorem d_XSearch_lowestClaim_46 : decode Y_XSearch_lowestClaim.2.1 46 = .ok (.aload_n 0, 1) := by decide +kernel
theorem d_XSearch_lowestClaim_47 : decode Y_XSearch_lowestClaim.2.1 47 = .ok (.getfield 15, 3) := by decide +kernel
theorem d_XSearch_lowestClaim_50 : decode Y_XSearch_lowestClaim.2.1 50 = .ok (.getfield 198, 3) := by decide +kernel
theorem d_XSearch_lowestClaim_53 : decode Y_XSearch_lowestClaim.2.1 53 = .ok (.iconst 1, 1) := by decide +kernel
theorem d_XSearch_lowestClaim_54 : decode Y_XSearch_lowestClaim.2.1 54 = .ok (.isub, 1) := by decide +kernel
theorem d_XSearch_lowestClaim_55 : decode Y_XSearch_lowestClaim.2.1 55 = .ok (.ireturn, 1) := by decide +kernel
def F_XSearch_lowestClaim_2 (n : Nat) : Nat → Nat → Int32 → Int32 → PM → qO
  | 0, _, _, _, _ => none
  | f + 1, l0, l1, l2, M =>
    gR 8 M l0 1 (fun v1 =>
    gI 7 M v1 4 (fun v2 =>
    if v2 ≤ l2 then
      gR 8 M l0 1 (fun v4 =>
      gI 7 M v4 4 (fun v5 =>
      some (.inl (some (.int (v5 - (1 : Int32)))), M)))
    else
      gR 8 M l0 2 (fun v6 =>
      gR 8 M l0 1 (fun v7 =>
      gR 7 M v7 1 (fun v8 =>
      lI M v8 l2 (fun v9 =>
      kO 5 M v6 (
      cL (F_XPlanes_truthOf n v6 v9 M) (fun v11 M10 =>
      if (lg_cmp (((v11.toUInt64 >>> (l1.toInt64.toUInt64 &&& Int64.toUInt64 63)).toInt64) &&& (1 : Int64)) (1 : Int64)) = (0 : Int32) then
        some (.inl (some (.int l2)), M10)
      else
        bI (l2 + (1 : Int32)) (fun v13 =>
        (F_XSearch_lowestClaim_2 n f) l0 l1 v13 M10)))))))))
set_option maxHeartbeats 4000000 in
set_option maxRecDepth 100000 in
theorem E_XSearch_lowestClaim_2 {g : qG} {X : qX} {Z : qZ} (hn : 1 ≤ zn Z) (hl : 21 ≤ zl Z) {n : Nat} : ∀ (f : Nat) (l0 : Nat) (l1 : Int32) (l2 : Int32) (M : PM), F_XSearch_lowestClaim_2 n f l0 l1 l2 M = some (zr Z, zf Z) → EW Y_XSearch_lowestClaim g X Z 2 [(0, .ref l0), (1, .int l1), (2, .int l2)] [] M := by
  intro f
  induction f with
  | zero => intro l0 l1 l2 M h; rw [F_XSearch_lowestClaim_2] at h; cases h
  | succ f ih =>
    intro l0 l1 l2 M h
    rw [F_XSearch_lowestClaim_2] at h
    refine ew_iload_n 2 d_XSearch_lowestClaim_2 rfl rfl ?_
    refine ew_aload_n 0 d_XSearch_lowestClaim_3 rfl rfl ?_
    obtain ⟨v1, av1, bv1, h⟩ := gR_inv h
    refine ew_gR 8 1 d_XSearch_lowestClaim_4 fl_XSearch_15 av1 bv1 ?_
    obtain ⟨v2, av2, bv2, h⟩ := gI_inv h
    refine ew_gI 7 4 d_XSearch_lowestClaim_7 fl_XSearch_198 av2 bv2 ?_
    refine ew_icmp_ge 46 d_XSearch_lowestClaim_10 (by decide) (fun c3 => ?_) (fun c3 => ?_)
    · rw [if_pos c3] at h
      refine ew_aload_n 0 d_XSearch_lowestClaim_46 rfl rfl ?_
      obtain ⟨v4, av4, bv4, h⟩ := gR_inv h
      refine ew_gR 8 1 d_XSearch_lowestClaim_47 fl_XSearch_15 av4 bv4 ?_
      obtain ⟨v5, av5, bv5, h⟩ := gI_inv h
      refine ew_gI 7 4 d_XSearch_lowestClaim_50 fl_XSearch_198 av5 bv5 ?_
      refine ew_iconst (1) d_XSearch_lowestClaim_53 (by decide) ?_
      refine ew_isub d_XSearch_lowestClaim_54 ?_
      obtain ⟨hz, hm⟩ := Prod.mk.inj (Option.some.inj h)
      exact ew_ireturn d_XSearch_lowestClaim_55 rfl hz.symm hm.symm
    · rw [if_neg c3] at h
      refine ew_aload_n 0 d_XSearch_lowestClaim_13 rfl rfl ?_
      obtain ⟨v6, av6, bv6, h⟩ := gR_inv h
      refine ew_gR 8 2 d_XSearch_lowestClaim_14 fl_XSearch_24 av6 bv6 ?_
      refine ew_aload_n 0 d_XSearch_lowestClaim_17 rfl rfl ?_
      obtain ⟨v7, av7, bv7, h⟩ := gR_inv h
      refine ew_gR 8 1 d_XSearch_lowestClaim_18 fl_XSearch_15 av7 bv7 ?_
      obtain ⟨v8, av8, bv8, h⟩ := gR_inv h
      refine ew_gR 7 1 d_XSearch_lowestClaim_21 fl_XSearch_201 av8 bv8 ?_
      refine ew_iload_n 2 d_XSearch_lowestClaim_24 rfl rfl ?_
      obtain ⟨v9, av9, bv9, cv9, ev9, h⟩ := lI_inv h
      refine ew_lI d_XSearch_lowestClaim_25 av9 bv9 cv9 ev9 ?_
      obtain ⟨kM10, h⟩ := kO_inv h
      obtain ⟨v11, M10, hM10, h⟩ := cL_inv h
      refine ew_callV 5 [.int v9] d_XSearch_lowestClaim_26 cv_XSearch_174 (T_XPlanes_truthOf hM10) kM10 (Nat.le_trans (Nat.le_of_ble_eq_true rfl) hn) (Nat.le_trans (Nat.le_of_ble_eq_true rfl) hl) (Nat.le_of_ble_eq_true rfl) rfl rfl ?_
      refine ew_iload_n 1 d_XSearch_lowestClaim_29 rfl rfl ?_
      refine ew_lushr d_XSearch_lowestClaim_30 ?_
      refine ew_lconst 1 d_XSearch_lowestClaim_31 (by decide) ?_
      refine ew_land d_XSearch_lowestClaim_32 ?_
      refine ew_lconst 1 d_XSearch_lowestClaim_33 (by decide) ?_
      refine ew_lcmp d_XSearch_lowestClaim_34 ?_
      refine ew_if_ne 40 d_XSearch_lowestClaim_35 (by decide) (fun c12 => ?_) (fun c12 => ?_)
      · rw [if_neg c12] at h
        obtain ⟨v13, ev13, h⟩ := bI_inv h
        refine ew_iinc (L' := [(0, .ref l0), (1, .int l1), (2, .int v13)]) v13 [1, 2, 0] d_XSearch_lowestClaim_40 rfl (by rw [ev13]; rfl) (by decide) rfl ?_
        refine ew_goto 2 d_XSearch_lowestClaim_43 (by decide) ?_
        exact ih l0 l1 v13 M10 h
      · rw [if_pos c12] at h
        refine ew_iload_n 2 d_XSearch_lowestClaim_38 rfl rfl ?_
        obtain ⟨hz, hm⟩ := Prod.mk.inj (Option.some.inj h)
        exact ew_ireturn d_XSearch_lowestClaim_39 rfl hz.symm hm.symm
def F_XSearch_lowestClaim (n : Nat) (l0 : Nat) (l1 : Int32) (M : PM) : qO :=
  F_XSearch_lowestClaim_2 n n l0 l1 (0 : Int32) M
set_option maxHeartbeats 4000000 in
set_option maxRecDepth 100000 in
theorem E_XSearch_lowestClaim {g : qG} {X : qX} {Z : qZ} (hn : 1 ≤ zn Z) (hl : 21 ≤ zl Z) {n : Nat} {l0 : Nat} {l1 : Int32} {M : PM} (h : F_XSearch_lowestClaim n l0 l1 M = some (zr Z, zf Z)) : EW Y_XSearch_lowestClaim g X Z 0 [(0, .ref l0), (1, .int l1)] [] M := by
  unfold F_XSearch_lowestClaim at h
  refine ew_iconst (0) d_XSearch_lowestClaim_0 (by decide) ?_
  refine ew_istore_n (L' := [(0, .ref l0), (1, .int l1), (2, .int (0 : Int32))]) 2 [1, 2, 0] d_XSearch_lowestClaim_1 rfl (by decide) rfl ?_
  exact E_XSearch_lowestClaim_2 hn hl n l0 l1 (0 : Int32) M h
theorem T_XSearch_lowestClaim {n : Nat} {l0 : Nat} {l1 : Int32} {M Mf : PM} {res : qRs} (h : F_XSearch_lowestClaim n l0 l1 M = some (res, Mf)) : CT Y_XSearch_lowestClaim 1 21 [.ref l0, .int l1] M res Mf :=
  CT_of (by decide) (Nat.le_of_ble_eq_true rfl) (qHd_ne (by decide)) (fun g X ad0 => E_XSearch_lowestClaim (g := g) (X := X) (Z := (ad0, M, res, Mf, 1, 21)) (Nat.le_refl _) (Nat.le_refl _) h)
theorem d_XSearch_look_0 : decode Y_XSearch_look.2.1 0 = .ok (.lconst 0, 1) := by decide +kernel
theorem d_XSearch_look_1 : decode Y_XSearch_look.2.1 1 = .ok (.lstore_n 3, 1) := by decide +kernel
theorem d_XSearch_look_2 : decode Y_XSearch_look.2.1 2 = .ok (.iconst 0, 1) := by decide +kernel
theorem d_XSearch_look_3 : decode Y_XSearch_look.2.1 3 = .ok (.istore 5, 2) := by decide +kernel
theorem d_XSearch_look_5 : decode Y_XSearch_look.2.1 5 = .ok (.iload 5, 2) := by decide +kernel
theorem d_XSearch_look_7 : decode Y_XSearch_look.2.1 7 = .ok (.aload_n 0, 1) := by decide +kernel
theorem d_XSearch_look_8 : decode Y_XSearch_look.2.1 8 = .ok (.getfield 15, 3) := by decide +kernel
theorem d_XSearch_look_11 : decode Y_XSearch_look.2.1 11 = .ok (.getfield 198, 3) := by decide +kernel
theorem d_XSearch_look_14 : decode Y_XSearch_look.2.1 14 = .ok (.if_icmp .ge (29), 3) := by decide +kernel
theorem d_XSearch_look_17 : decode Y_XSearch_look.2.1 17 = .ok (.lload_n 3, 1) := by decide +kernel
theorem d_XSearch_look_18 : decode Y_XSearch_look.2.1 18 = .ok (.aload_n 0, 1) := by decide +kernel
theorem d_XSearch_look_19 : decode Y_XSearch_look.2.1 19 = .ok (.getfield 24, 3) := by decide +kernel
theorem d_XSearch_look_22 : decode Y_XSearch_look.2.1 22 = .ok (.aload_n 0, 1) := by decide +kernel
theorem d_XSearch_look_23 : decode Y_XSearch_look.2.1 23 = .ok (.getfield 15, 3) := by decide +kernel
theorem d_XSearch_look_26 : decode Y_XSearch_look.2.1 26 = .ok (.getfield 201, 3) := by decide +kernel
theorem d_XSearch_look_29 : decode Y_XSearch_look.2.1 29 = .ok (.iload 5, 2) := by decide +kernel
theorem d_XSearch_look_31 : decode Y_XSearch_look.2.1 31 = .ok (.iaload, 1) := by decide +kernel
theorem d_XSearch_look_32 : decode Y_XSearch_look.2.1 32 = .ok (.invokevirtual 174, 3) := by decide +kernel
theorem d_XSearch_look_35 : decode Y_XSearch_look.2.1 35 = .ok (.lor, 1) := by decide +kernel
theorem d_XSearch_look_36 : decode Y_XSearch_look.2.1 36 = .ok (.lstore_n 3, 1) := by decide +kernel
theorem d_XSearch_look_37 : decode Y_XSearch_look.2.1 37 = .ok (.iinc 5 (1), 3) := by decide +kernel
theorem d_XSearch_look_40 : decode Y_XSearch_look.2.1 40 = .ok (.goto (-35), 3) := by decide +kernel
theorem d_XSearch_look_43 : decode Y_XSearch_look.2.1 43 = .ok (.lload_n 3, 1) := by decide +kernel
theorem d_XSearch_look_44 : decode Y_XSearch_look.2.1 44 = .ok (.lload_n 1, 1) := by decide +kernel
theorem d_XSearch_look_45 : decode Y_XSearch_look.2.1 45 = .ok (.land, 1) := by decide +kernel
theorem d_XSearch_look_46 : decode Y_XSearch_look.2.1 46 = .ok (.lstore_n 3, 1) := by decide +kernel
theorem d_XSearch_look_47 : decode Y_XSearch_look.2.1 47 = .ok (.lload_n 3, 1) := by decide +kernel
theorem d_XSearch_look_48 : decode Y_XSearch_look.2.1 48 = .ok (.lconst 0, 1) := by decide +kernel
theorem d_XSearch_look_49 : decode Y_XSearch_look.2.1 49 = .ok (.lcmp, 1) := by decide +kernel
theorem d_XSearch_look_50 : decode Y_XSearch_look.2.1 50 = .ok (.ifCond .ne (4), 3) := by decide +kernel
theorem d_XSearch_look_53 : decode Y_XSearch_look.2.1 53 = .ok (.return_, 1) := by decide +kernel
theorem d_XSearch_look_54 : decode Y_XSearch_look.2.1 54 = .ok (.lload_n 3, 1) := by decide +kernel
theorem d_XSearch_look_55 : decode Y_XSearch_look.2.1 55 = .ok (.lload_n 3, 1) := by decide +kernel
theorem d_XSearch_look_56 : decode Y_XSearch_look.2.1 56 = .ok (.lneg, 1) := by decide +kernel
theorem d_XSearch_look_57 : decode Y_XSearch_look.2.1 57 = .ok (.land, 1) := by decide +kernel
theorem d_XSearch_look_58 : decode Y_XSearch_look.2.1 58 = .ok (.lconst 1, 1) := by decide +kernel
theorem d_XSearch_look_59 : decode Y_XSearch_look.2.1 59 = .ok (.lsub, 1) := by decide +kernel
theorem d_XSearch_look_60 : decode Y_XSearch_look.2.1 60 = .ok (.invokestatic 204, 3) := by decide +kernel
theorem d_XSearch_look_63 : decode Y_XSearch_look.2.1 63 = .ok (.istore 5, 2) := by decide +kernel
theorem d_XSearch_look_65 : decode Y_XSearch_look.2.1 65 = .ok (.aload_n 0, 1) := by decide +kernel
theorem d_XSearch_look_66 : decode Y_XSearch_look.2.1 66 = .ok (.iload 5, 2) := by decide +kernel
theorem d_XSearch_look_68 : decode Y_XSearch_look.2.1 68 = .ok (.invokevirtual 210, 3) := by decide +kernel
theorem d_XSearch_look_71 : decode Y_XSearch_look.2.1 71 = .ok (.istore 6, 2) := by decide +kernel
theorem d_XSearch_look_73 : decode Y_XSearch_look.2.1 73 = .ok (.iload 5, 2) := by decide +kernel
theorem d_XSearch_look_75 : decode Y_XSearch_look.2.1 75 = .ok (.aload_n 0, 1) := by decide +kernel
theorem d_XSearch_look_76 : decode Y_XSearch_look.2.1 76 = .ok (.getfield 50, 3) := by decide +kernel
theorem d_XSearch_look_79 : decode Y_XSearch_look.2.1 79 = .ok (.if_icmp .lt (21), 3) := by decide +kernel
theorem d_XSearch_look_82 : decode Y_XSearch_look.2.1 82 = .ok (.iload 5, 2) := by decide +kernel
theorem d_XSearch_look_84 : decode Y_XSearch_look.2.1 84 = .ok (.aload_n 0, 1) := by decide +kernel
theorem d_XSearch_look_85 : decode Y_XSearch_look.2.1 85 = .ok (.getfield 50, 3) := by decide +kernel
theorem d_XSearch_look_88 : decode Y_XSearch_look.2.1 88 = .ok (.if_icmp .ne (41), 3) := by decide +kernel
theorem d_XSearch_look_91 : decode Y_XSearch_look.2.1 91 = .ok (.iload 6, 2) := by decide +kernel
theorem d_XSearch_look_93 : decode Y_XSearch_look.2.1 93 = .ok (.aload_n 0, 1) := by decide +kernel
theorem d_XSearch_look_94 : decode Y_XSearch_look.2.1 94 = .ok (.getfield 54, 3) := by decide +kernel
theorem d_XSearch_look_97 : decode Y_XSearch_look.2.1 97 = .ok (.if_icmp .ge (32), 3) := by decide +kernel
theorem d_XSearch_look_100 : decode Y_XSearch_look.2.1 100 = .ok (.aload_n 0, 1) := by decide +kernel
theorem d_XSearch_look_101 : decode Y_XSearch_look.2.1 101 = .ok (.iload 5, 2) := by decide +kernel
theorem d_XSearch_look_103 : decode Y_XSearch_look.2.1 103 = .ok (.putfield 50, 3) := by decide +kernel
theorem d_XSearch_look_106 : decode Y_XSearch_look.2.1 106 = .ok (.aload_n 0, 1) := by decide +kernel
theorem d_XSearch_look_107 : decode Y_XSearch_look.2.1 107 = .ok (.iload 6, 2) := by decide +kernel
theorem d_XSearch_look_109 : decode Y_XSearch_look.2.1 109 = .ok (.putfield 54, 3) := by decide +kernel
theorem d_XSearch_look_112 : decode Y_XSearch_look.2.1 112 = .ok (.aload_n 0, 1) := by decide +kernel
theorem d_XSearch_look_113 : decode Y_XSearch_look.2.1 113 = .ok (.getfield 35, 3) := by decide +kernel
theorem d_XSearch_look_116 : decode Y_XSearch_look.2.1 116 = .ok (.iconst 0, 1) := by decide +kernel
theorem d_XSearch_look_117 : decode Y_XSearch_look.2.1 117 = .ok (.aload_n 0, 1) := by decide +kernel
theorem d_XSearch_look_118 : decode Y_XSearch_look.2.1 118 = .ok (.getfield 47, 3) := by decide +kernel
theorem d_XSearch_look_121 : decode Y_XSearch_look.2.1 121 = .ok (.iconst 0, 1) := by decide +kernel
theorem d_XSearch_look_122 : decode Y_XSearch_look.2.1 122 = .ok (.aload_n 0, 1) := by decide +kernel
theorem d_XSearch_look_123 : decode Y_XSearch_look.2.1 123 = .ok (.getfield 108, 3) := by decide +kernel
theorem d_XSearch_look_126 : decode Y_XSearch_look.2.1 126 = .ok (.invokestatic 213, 3) := by decide +kernel
theorem d_XSearch_look_129 : decode Y_XSearch_look.2.1 129 = .ok (.return_, 1) := by decide +kernel
def F_XSearch_look_129 (n : Nat) (M : PM) : qO :=
  some (.inl none, M)
set_option maxHeartbeats 4000000 in
set_option maxRecDepth 100000 in
theorem E_XSearch_look_129 {g : qG} {X : qX} {Z : qZ} (hn : 2 ≤ zn Z) (hl : 43 ≤ zl Z) {n : Nat} {M : PM} (h : F_XSearch_look_129 n M = some (zr Z, zf Z)) : EW Y_XSearch_look g X Z 129 [] [] M := by
  unfold F_XSearch_look_129 at h
  obtain ⟨hz, hm⟩ := Prod.mk.inj (Option.some.inj h)
  exact ew_return d_XSearch_look_129 rfl hz.symm hm.symm
def F_XSearch_look_100 (n : Nat) (l0 : Nat) (l5 : Int32) (l6 : Int32) (M : PM) : qO :=
  pF 8 M l0 13 (.int l5) (fun M1 =>
  pF 8 M1 l0 14 (.int l6) (fun M2 =>
  gR 8 M2 l0 5 (fun v3 =>
  gR 8 M2 l0 9 (fun v4 =>
  gI 8 M2 l0 12 (fun v5 =>
  cp M2 v3 (0 : Int32) v4 (0 : Int32) v5 (fun M6 =>
  F_XSearch_look_129 n M6))))))
set_option maxHeartbeats 4000000 in
set_option maxRecDepth 100000 in
theorem E_XSearch_look_100 {g : qG} {X : qX} {Z : qZ} (hn : 2 ≤ zn Z) (hl : 43 ≤ zl Z) {n : Nat} {l0 : Nat} {l5 : Int32} {l6 : Int32} {M : PM} (h : F_XSearch_look_100 n l0 l5 l6 M = some (zr Z, zf Z)) : EW Y_XSearch_look g X Z 100 [(0, .ref l0), (5, .int l5), (6, .int l6)] [] M := by
  unfold F_XSearch_look_100 at h
  refine ew_aload_n 0 d_XSearch_look_100 rfl rfl ?_
  refine ew_iload d_XSearch_look_101 rfl ?_
  obtain ⟨M1, aM1, eM1, h⟩ := pF_inv h
  refine ew_pF 8 13 d_XSearch_look_103 fl_XSearch_50 aM1 eM1 (fun ad => ⟨rfl, rfl⟩) ?_
  refine ew_aload_n 0 d_XSearch_look_106 rfl rfl ?_
  refine ew_iload d_XSearch_look_107 rfl ?_
  obtain ⟨M2, aM2, eM2, h⟩ := pF_inv h
  refine ew_pF 8 14 d_XSearch_look_109 fl_XSearch_54 aM2 eM2 (fun ad => ⟨rfl, rfl⟩) ?_
  refine ew_aload_n 0 d_XSearch_look_112 rfl rfl ?_
  obtain ⟨v3, av3, bv3, h⟩ := gR_inv h
  refine ew_gR 8 5 d_XSearch_look_113 fl_XSearch_35 av3 bv3 ?_
  refine ew_iconst (0) d_XSearch_look_116 (by decide) ?_
  refine ew_aload_n 0 d_XSearch_look_117 rfl rfl ?_
  obtain ⟨v4, av4, bv4, h⟩ := gR_inv h
  refine ew_gR 8 9 d_XSearch_look_118 fl_XSearch_47 av4 bv4 ?_
  refine ew_iconst (0) d_XSearch_look_121 (by decide) ?_
  refine ew_aload_n 0 d_XSearch_look_122 rfl rfl ?_
  obtain ⟨v5, av5, bv5, h⟩ := gI_inv h
  refine ew_gI 8 12 d_XSearch_look_123 fl_XSearch_108 av5 bv5 ?_
  obtain ⟨M6, aM6, eM6, h⟩ := cp_inv h
  refine ew_cp d_XSearch_look_126 cp_XSearch_213 aM6 eM6 (Nat.le_trans (Nat.le_of_ble_eq_true rfl) hn) (Nat.le_trans (Nat.le_of_ble_eq_true rfl) hl) ?_
  exact ew_pick (L' := []) [] rfl (E_XSearch_look_129 hn hl h)
def F_XSearch_look_5 (n : Nat) : Nat → Nat → Int64 → Int64 → Int32 → PM → qO
  | 0, _, _, _, _, _ => none
  | f + 1, l0, l1, l3, l5, M =>
    gR 8 M l0 1 (fun v1 =>
    gI 7 M v1 4 (fun v2 =>
    if v2 ≤ l5 then
      bL (l3 &&& l1) (fun v4 =>
      if (lg_cmp v4 (0 : Int64)) = (0 : Int32) then
        some (.inl none, M)
      else
        cI (F_JLong_bitCount n ((v4 &&& (-v4)) - (1 : Int64)) M) (fun v7 M6 =>
        kO 8 M6 l0 (
        cI (F_XSearch_lowestClaim n l0 v7 M6) (fun v9 M8 =>
        gI 8 M8 l0 13 (fun v10 =>
        if v7 < v10 then
          F_XSearch_look_100 n l0 v7 v9 M8
        else
          gI 8 M8 l0 13 (fun v12 =>
          if v7 = v12 then
            gI 8 M8 l0 14 (fun v14 =>
            if v14 ≤ v9 then
              F_XSearch_look_129 n M8
            else
              F_XSearch_look_100 n l0 v7 v9 M8)
          else
            F_XSearch_look_129 n M8))))))
    else
      gR 8 M l0 2 (fun v16 =>
      gR 8 M l0 1 (fun v17 =>
      gR 7 M v17 1 (fun v18 =>
      lI M v18 l5 (fun v19 =>
      kO 5 M v16 (
      cL (F_XPlanes_truthOf n v16 v19 M) (fun v21 M20 =>
      bL (l3 ||| v21) (fun v22 =>
      bI (l5 + (1 : Int32)) (fun v23 =>
      (F_XSearch_look_5 n f) l0 l1 v22 v23 M20))))))))))
set_option maxHeartbeats 4000000 in
set_option maxRecDepth 100000 in
theorem E_XSearch_look_5 {g : qG} {X : qX} {Z : qZ} (hn : 2 ≤ zn Z) (hl : 43 ≤ zl Z) {n : Nat} : ∀ (f : Nat) (l0 : Nat) (l1 : Int64) (l3 : Int64) (l5 : Int32) (M : PM), F_XSearch_look_5 n f l0 l1 l3 l5 M = some (zr Z, zf Z) → EW Y_XSearch_look g X Z 5 [(0, .ref l0), (1, .long l1), (3, .long l3), (5, .int l5)] [] M := by
  intro f
  induction f with
  | zero => intro l0 l1 l3 l5 M h; rw [F_XSearch_look_5] at h; cases h
  | succ f ih =>
    intro l0 l1 l3 l5 M h
    rw [F_XSearch_look_5] at h
    refine ew_iload d_XSearch_look_5 rfl ?_
    refine ew_aload_n 0 d_XSearch_look_7 rfl rfl ?_
    obtain ⟨v1, av1, bv1, h⟩ := gR_inv h
    refine ew_gR 8 1 d_XSearch_look_8 fl_XSearch_15 av1 bv1 ?_
    obtain ⟨v2, av2, bv2, h⟩ := gI_inv h
    refine ew_gI 7 4 d_XSearch_look_11 fl_XSearch_198 av2 bv2 ?_
    refine ew_icmp_ge 43 d_XSearch_look_14 (by decide) (fun c3 => ?_) (fun c3 => ?_)
    · rw [if_pos c3] at h
      refine ew_lload_n 3 d_XSearch_look_43 rfl rfl ?_
      refine ew_lload_n 1 d_XSearch_look_44 rfl rfl ?_
      refine ew_land d_XSearch_look_45 ?_
      obtain ⟨v4, ev4, h⟩ := bL_inv h
      refine ew_topL ev4 ?_
      refine ew_lstore_n (L' := [(0, .ref l0), (1, .long l1), (3, .long v4), (5, .int l5)]) 3 [1, 2, 0, 3] d_XSearch_look_46 rfl (by decide) rfl ?_
      refine ew_lload_n 3 d_XSearch_look_47 rfl rfl ?_
      refine ew_lconst 0 d_XSearch_look_48 (by decide) ?_
      refine ew_lcmp d_XSearch_look_49 ?_
      refine ew_if_ne 54 d_XSearch_look_50 (by decide) (fun c5 => ?_) (fun c5 => ?_)
      · rw [if_neg c5] at h
        refine ew_lload_n 3 d_XSearch_look_54 rfl rfl ?_
        refine ew_lload_n 3 d_XSearch_look_55 rfl rfl ?_
        refine ew_lneg d_XSearch_look_56 ?_
        refine ew_land d_XSearch_look_57 ?_
        refine ew_lconst 1 d_XSearch_look_58 (by decide) ?_
        refine ew_lsub d_XSearch_look_59 ?_
        obtain ⟨v7, M6, hM6, h⟩ := cI_inv h
        refine ew_callS [.long ((v4 &&& (-v4)) - (1 : Int64))] d_XSearch_look_60 cs_XSearch_204 (T_JLong_bitCount hM6) (Nat.le_trans (Nat.le_of_ble_eq_true rfl) hn) (Nat.le_trans (Nat.le_of_ble_eq_true rfl) hl) (Nat.le_of_ble_eq_true rfl) rfl rfl ?_
        refine ew_istore (L' := [(0, .ref l0), (1, .long l1), (3, .long v4), (5, .int v7)]) [1, 2, 3, 0] d_XSearch_look_63 (by decide) rfl ?_
        refine ew_aload_n 0 d_XSearch_look_65 rfl rfl ?_
        refine ew_iload d_XSearch_look_66 rfl ?_
        obtain ⟨kM8, h⟩ := kO_inv h
        obtain ⟨v9, M8, hM8, h⟩ := cI_inv h
        refine ew_callV 8 [.int v7] d_XSearch_look_68 cv_XSearch_210 (T_XSearch_lowestClaim hM8) kM8 (Nat.le_trans (Nat.le_of_ble_eq_true rfl) hn) (Nat.le_trans (Nat.le_of_ble_eq_true rfl) hl) (Nat.le_of_ble_eq_true rfl) rfl rfl ?_
        refine ew_istore (L' := [(0, .ref l0), (1, .long l1), (3, .long v4), (5, .int v7), (6, .int v9)]) [1, 2, 3, 4, 0] d_XSearch_look_71 (by decide) rfl ?_
        refine ew_iload d_XSearch_look_73 rfl ?_
        refine ew_aload_n 0 d_XSearch_look_75 rfl rfl ?_
        obtain ⟨v10, av10, bv10, h⟩ := gI_inv h
        refine ew_gI 8 13 d_XSearch_look_76 fl_XSearch_50 av10 bv10 ?_
        refine ew_icmp_lt 100 d_XSearch_look_79 (by decide) (fun c11 => ?_) (fun c11 => ?_)
        · rw [if_pos c11] at h
          exact ew_pick (L' := [(0, .ref l0), (5, .int v7), (6, .int v9)]) [0, 3, 4] rfl (E_XSearch_look_100 hn hl h)
        · rw [if_neg c11] at h
          refine ew_iload d_XSearch_look_82 rfl ?_
          refine ew_aload_n 0 d_XSearch_look_84 rfl rfl ?_
          obtain ⟨v12, av12, bv12, h⟩ := gI_inv h
          refine ew_gI 8 13 d_XSearch_look_85 fl_XSearch_50 av12 bv12 ?_
          refine ew_icmp_ne 129 d_XSearch_look_88 (by decide) (fun c13 => ?_) (fun c13 => ?_)
          · rw [if_neg c13] at h
            exact ew_pick (L' := []) [] rfl (E_XSearch_look_129 hn hl h)
          · rw [if_pos c13] at h
            refine ew_iload d_XSearch_look_91 rfl ?_
            refine ew_aload_n 0 d_XSearch_look_93 rfl rfl ?_
            obtain ⟨v14, av14, bv14, h⟩ := gI_inv h
            refine ew_gI 8 14 d_XSearch_look_94 fl_XSearch_54 av14 bv14 ?_
            refine ew_icmp_ge 129 d_XSearch_look_97 (by decide) (fun c15 => ?_) (fun c15 => ?_)
            · rw [if_pos c15] at h
              exact ew_pick (L' := []) [] rfl (E_XSearch_look_129 hn hl h)
            · rw [if_neg c15] at h
              exact ew_pick (L' := [(0, .ref l0), (5, .int v7), (6, .int v9)]) [0, 3, 4] rfl (E_XSearch_look_100 hn hl h)
      · rw [if_pos c5] at h
        obtain ⟨hz, hm⟩ := Prod.mk.inj (Option.some.inj h)
        exact ew_return d_XSearch_look_53 rfl hz.symm hm.symm
    · rw [if_neg c3] at h
      refine ew_lload_n 3 d_XSearch_look_17 rfl rfl ?_
      refine ew_aload_n 0 d_XSearch_look_18 rfl rfl ?_
      obtain ⟨v16, av16, bv16, h⟩ := gR_inv h
      refine ew_gR 8 2 d_XSearch_look_19 fl_XSearch_24 av16 bv16 ?_
      refine ew_aload_n 0 d_XSearch_look_22 rfl rfl ?_
      obtain ⟨v17, av17, bv17, h⟩ := gR_inv h
      refine ew_gR 8 1 d_XSearch_look_23 fl_XSearch_15 av17 bv17 ?_
      obtain ⟨v18, av18, bv18, h⟩ := gR_inv h
      refine ew_gR 7 1 d_XSearch_look_26 fl_XSearch_201 av18 bv18 ?_
      refine ew_iload d_XSearch_look_29 rfl ?_
      obtain ⟨v19, av19, bv19, cv19, ev19, h⟩ := lI_inv h
      refine ew_lI d_XSearch_look_31 av19 bv19 cv19 ev19 ?_
      obtain ⟨kM20, h⟩ := kO_inv h
      obtain ⟨v21, M20, hM20, h⟩ := cL_inv h
      refine ew_callV 5 [.int v19] d_XSearch_look_32 cv_XSearch_174 (T_XPlanes_truthOf hM20) kM20 (Nat.le_trans (Nat.le_of_ble_eq_true rfl) hn) (Nat.le_trans (Nat.le_of_ble_eq_true rfl) hl) (Nat.le_of_ble_eq_true rfl) rfl rfl ?_
      refine ew_lor d_XSearch_look_35 ?_
      obtain ⟨v22, ev22, h⟩ := bL_inv h
      refine ew_topL ev22 ?_
      refine ew_lstore_n (L' := [(0, .ref l0), (1, .long l1), (3, .long v22), (5, .int l5)]) 3 [1, 2, 0, 3] d_XSearch_look_36 rfl (by decide) rfl ?_
      obtain ⟨v23, ev23, h⟩ := bI_inv h
      refine ew_iinc (L' := [(0, .ref l0), (1, .long l1), (3, .long v22), (5, .int v23)]) v23 [1, 2, 3, 0] d_XSearch_look_37 rfl (by rw [ev23]; rfl) (by decide) rfl ?_
      refine ew_goto 5 d_XSearch_look_40 (by decide) ?_
      exact ih l0 l1 v22 v23 M20 h
def F_XSearch_look (n : Nat) (l0 : Nat) (l1 : Int64) (M : PM) : qO :=
  F_XSearch_look_5 n n l0 l1 (0 : Int64) (0 : Int32) M
set_option maxHeartbeats 4000000 in
set_option maxRecDepth 100000 in
theorem E_XSearch_look {g : qG} {X : qX} {Z : qZ} (hn : 2 ≤ zn Z) (hl : 43 ≤ zl Z) {n : Nat} {l0 : Nat} {l1 : Int64} {M : PM} (h : F_XSearch_look n l0 l1 M = some (zr Z, zf Z)) : EW Y_XSearch_look g X Z 0 [(0, .ref l0), (1, .long l1)] [] M := by
  unfold F_XSearch_look at h
  refine ew_lconst 0 d_XSearch_look_0 (by decide) ?_
  refine ew_lstore_n (L' := [(0, .ref l0), (1, .long l1), (3, .long (0 : Int64))]) 3 [1, 2, 0] d_XSearch_look_1 rfl (by decide) rfl ?_
  refine ew_iconst (0) d_XSearch_look_2 (by decide) ?_
  refine ew_istore (L' := [(0, .ref l0), (1, .long l1), (3, .long (0 : Int64)), (5, .int (0 : Int32))]) [1, 2, 3, 0] d_XSearch_look_3 (by decide) rfl ?_
  exact E_XSearch_look_5 hn hl n l0 l1 (0 : Int64) (0 : Int32) M h
theorem T_XSearch_look {n : Nat} {l0 : Nat} {l1 : Int64} {M Mf : PM} {res : qRs} (h : F_XSearch_look n l0 l1 M = some (res, Mf)) : CT Y_XSearch_look 2 43 [.ref l0, .long l1] M res Mf :=
  CT_of (by decide) (Nat.le_of_ble_eq_true rfl) (qHd_ne (by decide)) (fun g X ad0 => E_XSearch_look (g := g) (X := X) (Z := (ad0, M, res, Mf, 2, 43)) (Nat.le_refl _) (Nat.le_refl _) h)
theorem d_XSearch_statesOfUse_0 : decode Y_XSearch_statesOfUse.2.1 0 = .ok (.iload_n 1, 1) := by decide +kernel
theorem d_XSearch_statesOfUse_1 : decode Y_XSearch_statesOfUse.2.1 1 = .ok (.aload_n 0, 1) := by decide +kernel
theorem d_XSearch_statesOfUse_2 : decode Y_XSearch_statesOfUse.2.1 2 = .ok (.getfield 108, 3) := by decide +kernel
theorem d_XSearch_statesOfUse_5 : decode Y_XSearch_statesOfUse.2.1 5 = .ok (.if_icmp .lt (7), 3) := by decide +kernel
theorem d_XSearch_statesOfUse_8 : decode Y_XSearch_statesOfUse.2.1 8 = .ok (.iconst 1, 1) := by decide +kernel
theorem d_XSearch_statesOfUse_9 : decode Y_XSearch_statesOfUse.2.1 9 = .ok (.goto (4), 3) := by decide +kernel
theorem d_XSearch_statesOfUse_12 : decode Y_XSearch_statesOfUse.2.1 12 = .ok (.iconst 0, 1) := by decide +kernel
theorem d_XSearch_statesOfUse_13 : decode Y_XSearch_statesOfUse.2.1 13 = .ok (.istore_n 2, 1) := by decide +kernel
theorem d_XSearch_statesOfUse_14 : decode Y_XSearch_statesOfUse.2.1 14 = .ok (.iload_n 2, 1) := by decide +kernel
theorem d_XSearch_statesOfUse_15 : decode Y_XSearch_statesOfUse.2.1 15 = .ok (.ifCond .eq (19), 3) := by decide +kernel
theorem d_XSearch_statesOfUse_18 : decode Y_XSearch_statesOfUse.2.1 18 = .ok (.aload_n 0, 1) := by decide +kernel
theorem d_XSearch_statesOfUse_19 : decode Y_XSearch_statesOfUse.2.1 19 = .ok (.getfield 54, 3) := by decide +kernel
theorem d_XSearch_statesOfUse_22 : decode Y_XSearch_statesOfUse.2.1 22 = .ok (.ifCond .le (12), 3) := by decide +kernel
theorem d_XSearch_statesOfUse_25 : decode Y_XSearch_statesOfUse.2.1 25 = .ok (.aload_n 0, 1) := by decide +kernel
theorem d_XSearch_statesOfUse_26 : decode Y_XSearch_statesOfUse.2.1 26 = .ok (.getfield 50, 3) := by decide +kernel
theorem d_XSearch_statesOfUse_29 : decode Y_XSearch_statesOfUse.2.1 29 = .ok (.iconst 1, 1) := by decide +kernel
theorem d_XSearch_statesOfUse_30 : decode Y_XSearch_statesOfUse.2.1 30 = .ok (.iadd, 1) := by decide +kernel
theorem d_XSearch_statesOfUse_31 : decode Y_XSearch_statesOfUse.2.1 31 = .ok (.goto (7), 3) := by decide +kernel
theorem d_XSearch_statesOfUse_34 : decode Y_XSearch_statesOfUse.2.1 34 = .ok (.aload_n 0, 1) := by decide +kernel
theorem d_XSearch_statesOfUse_35 : decode Y_XSearch_statesOfUse.2.1 35 = .ok (.getfield 50, 3) := by decide +kernel
theorem d_XSearch_statesOfUse_38 : decode Y_XSearch_statesOfUse.2.1 38 = .ok (.invokestatic 77, 3) := by decide +kernel
theorem d_XSearch_statesOfUse_41 : decode Y_XSearch_statesOfUse.2.1 41 = .ok (.lreturn, 1) := by decide +kernel
def F_XSearch_statesOfUse_38 (n : Nat) (s0 : Int32) (M : PM) : qO :=
  cL (F_XSearch_statesBelow n s0 M) (fun v2 M1 =>
  some (.inl (some (.long v2)), M1))
set_option maxHeartbeats 4000000 in
set_option maxRecDepth 100000 in
theorem E_XSearch_statesOfUse_38 {g : qG} {X : qX} {Z : qZ} (hn : 1 ≤ zn Z) (hl : 20 ≤ zl Z) {n : Nat} {s0 : Int32} {M : PM} (h : F_XSearch_statesOfUse_38 n s0 M = some (zr Z, zf Z)) : EW Y_XSearch_statesOfUse g X Z 38 [] [.int s0] M := by
  unfold F_XSearch_statesOfUse_38 at h
  obtain ⟨v2, M1, hM1, h⟩ := cL_inv h
  refine ew_callS [.int s0] d_XSearch_statesOfUse_38 cs_XSearch_77 (T_XSearch_statesBelow hM1) (Nat.le_trans (Nat.le_of_ble_eq_true rfl) hn) (Nat.le_trans (Nat.le_of_ble_eq_true rfl) hl) (Nat.le_of_ble_eq_true rfl) rfl rfl ?_
  obtain ⟨hz, hm⟩ := Prod.mk.inj (Option.some.inj h)
  exact ew_lreturn d_XSearch_statesOfUse_41 rfl hz.symm hm.symm
def F_XSearch_statesOfUse_34 (n : Nat) (l0 : Nat) (M : PM) : qO :=
  gI 8 M l0 13 (fun v1 =>
  F_XSearch_statesOfUse_38 n v1 M)
set_option maxHeartbeats 4000000 in
set_option maxRecDepth 100000 in
theorem E_XSearch_statesOfUse_34 {g : qG} {X : qX} {Z : qZ} (hn : 1 ≤ zn Z) (hl : 20 ≤ zl Z) {n : Nat} {l0 : Nat} {M : PM} (h : F_XSearch_statesOfUse_34 n l0 M = some (zr Z, zf Z)) : EW Y_XSearch_statesOfUse g X Z 34 [(0, .ref l0)] [] M := by
  unfold F_XSearch_statesOfUse_34 at h
  refine ew_aload_n 0 d_XSearch_statesOfUse_34 rfl rfl ?_
  obtain ⟨v1, av1, bv1, h⟩ := gI_inv h
  refine ew_gI 8 13 d_XSearch_statesOfUse_35 fl_XSearch_50 av1 bv1 ?_
  exact ew_pick (L' := []) [] rfl (E_XSearch_statesOfUse_38 hn hl h)
def F_XSearch_statesOfUse_13 (n : Nat) (l0 : Nat) (s0 : Int32) (M : PM) : qO :=
  if s0 = (0 : Int32) then
    F_XSearch_statesOfUse_34 n l0 M
  else
    gI 8 M l0 14 (fun v2 =>
    if v2 ≤ (0 : Int32) then
      F_XSearch_statesOfUse_34 n l0 M
    else
      gI 8 M l0 13 (fun v4 =>
      F_XSearch_statesOfUse_38 n (v4 + (1 : Int32)) M))
set_option maxHeartbeats 4000000 in
set_option maxRecDepth 100000 in
theorem E_XSearch_statesOfUse_13 {g : qG} {X : qX} {Z : qZ} (hn : 1 ≤ zn Z) (hl : 20 ≤ zl Z) {n : Nat} {l0 : Nat} {s0 : Int32} {M : PM} (h : F_XSearch_statesOfUse_13 n l0 s0 M = some (zr Z, zf Z)) : EW Y_XSearch_statesOfUse g X Z 13 [(0, .ref l0)] [.int s0] M := by
  unfold F_XSearch_statesOfUse_13 at h
  refine ew_istore_n (L' := [(0, .ref l0), (2, .int s0)]) 2 [1, 0] d_XSearch_statesOfUse_13 rfl (by decide) rfl ?_
  refine ew_iload_n 2 d_XSearch_statesOfUse_14 rfl rfl ?_
  refine ew_if_eq 34 d_XSearch_statesOfUse_15 (by decide) (fun c1 => ?_) (fun c1 => ?_)
  · rw [if_pos c1] at h
    exact ew_pick (L' := [(0, .ref l0)]) [0] rfl (E_XSearch_statesOfUse_34 hn hl h)
  · rw [if_neg c1] at h
    refine ew_aload_n 0 d_XSearch_statesOfUse_18 rfl rfl ?_
    obtain ⟨v2, av2, bv2, h⟩ := gI_inv h
    refine ew_gI 8 14 d_XSearch_statesOfUse_19 fl_XSearch_54 av2 bv2 ?_
    refine ew_if_le 34 d_XSearch_statesOfUse_22 (by decide) (fun c3 => ?_) (fun c3 => ?_)
    · rw [if_pos c3] at h
      exact ew_pick (L' := [(0, .ref l0)]) [0] rfl (E_XSearch_statesOfUse_34 hn hl h)
    · rw [if_neg c3] at h
      refine ew_aload_n 0 d_XSearch_statesOfUse_25 rfl rfl ?_
      obtain ⟨v4, av4, bv4, h⟩ := gI_inv h
      refine ew_gI 8 13 d_XSearch_statesOfUse_26 fl_XSearch_50 av4 bv4 ?_
      refine ew_iconst (1) d_XSearch_statesOfUse_29 (by decide) ?_
      refine ew_iadd d_XSearch_statesOfUse_30 ?_
      refine ew_goto 38 d_XSearch_statesOfUse_31 (by decide) ?_
      exact ew_pick (L' := []) [] rfl (E_XSearch_statesOfUse_38 hn hl h)
def F_XSearch_statesOfUse (n : Nat) (l0 : Nat) (l1 : Int32) (M : PM) : qO :=
  gI 8 M l0 12 (fun v1 =>
  if l1 < v1 then
    F_XSearch_statesOfUse_13 n l0 (0 : Int32) M
  else
    F_XSearch_statesOfUse_13 n l0 (1 : Int32) M)
set_option maxHeartbeats 4000000 in
set_option maxRecDepth 100000 in
theorem E_XSearch_statesOfUse {g : qG} {X : qX} {Z : qZ} (hn : 1 ≤ zn Z) (hl : 20 ≤ zl Z) {n : Nat} {l0 : Nat} {l1 : Int32} {M : PM} (h : F_XSearch_statesOfUse n l0 l1 M = some (zr Z, zf Z)) : EW Y_XSearch_statesOfUse g X Z 0 [(0, .ref l0), (1, .int l1)] [] M := by
  unfold F_XSearch_statesOfUse at h
  refine ew_iload_n 1 d_XSearch_statesOfUse_0 rfl rfl ?_
  refine ew_aload_n 0 d_XSearch_statesOfUse_1 rfl rfl ?_
  obtain ⟨v1, av1, bv1, h⟩ := gI_inv h
  refine ew_gI 8 12 d_XSearch_statesOfUse_2 fl_XSearch_108 av1 bv1 ?_
  refine ew_icmp_lt 12 d_XSearch_statesOfUse_5 (by decide) (fun c2 => ?_) (fun c2 => ?_)
  · rw [if_pos c2] at h
    refine ew_iconst (0) d_XSearch_statesOfUse_12 (by decide) ?_
    exact ew_pick (L' := [(0, .ref l0)]) [0] rfl (E_XSearch_statesOfUse_13 hn hl h)
  · rw [if_neg c2] at h
    refine ew_iconst (1) d_XSearch_statesOfUse_8 (by decide) ?_
    refine ew_goto 13 d_XSearch_statesOfUse_9 (by decide) ?_
    exact ew_pick (L' := [(0, .ref l0)]) [0] rfl (E_XSearch_statesOfUse_13 hn hl h)
theorem T_XSearch_statesOfUse {n : Nat} {l0 : Nat} {l1 : Int32} {M Mf : PM} {res : qRs} (h : F_XSearch_statesOfUse n l0 l1 M = some (res, Mf)) : CT Y_XSearch_statesOfUse 1 20 [.ref l0, .int l1] M res Mf :=
  CT_of (by decide) (Nat.le_of_ble_eq_true rfl) (qHd_ne (by decide)) (fun g X ad0 => E_XSearch_statesOfUse (g := g) (X := X) (Z := (ad0, M, res, Mf, 1, 20)) (Nat.le_refl _) (Nat.le_refl _) h)
theorem d_XSearch_sameArguments_0 : decode Y_XSearch_sameArguments.2.1 0 = .ok (.aload_n 0, 1) := by decide +kernel
theorem d_XSearch_sameArguments_1 : decode Y_XSearch_sameArguments.2.1 1 = .ok (.getfield 9, 3) := by decide +kernel
theorem d_XSearch_sameArguments_4 : decode Y_XSearch_sameArguments.2.1 4 = .ok (.getfield 137, 3) := by decide +kernel
theorem d_XSearch_sameArguments_7 : decode Y_XSearch_sameArguments.2.1 7 = .ok (.iload_n 1, 1) := by decide +kernel
theorem d_XSearch_sameArguments_8 : decode Y_XSearch_sameArguments.2.1 8 = .ok (.iaload, 1) := by decide +kernel
theorem d_XSearch_sameArguments_9 : decode Y_XSearch_sameArguments.2.1 9 = .ok (.istore_n 3, 1) := by decide +kernel
theorem d_XSearch_sameArguments_10 : decode Y_XSearch_sameArguments.2.1 10 = .ok (.aload_n 0, 1) := by decide +kernel
theorem d_XSearch_sameArguments_11 : decode Y_XSearch_sameArguments.2.1 11 = .ok (.getfield 9, 3) := by decide +kernel
theorem d_XSearch_sameArguments_14 : decode Y_XSearch_sameArguments.2.1 14 = .ok (.getfield 137, 3) := by decide +kernel
theorem d_XSearch_sameArguments_17 : decode Y_XSearch_sameArguments.2.1 17 = .ok (.iload_n 2, 1) := by decide +kernel
theorem d_XSearch_sameArguments_18 : decode Y_XSearch_sameArguments.2.1 18 = .ok (.iaload, 1) := by decide +kernel
theorem d_XSearch_sameArguments_19 : decode Y_XSearch_sameArguments.2.1 19 = .ok (.istore 4, 2) := by decide +kernel
theorem d_XSearch_sameArguments_21 : decode Y_XSearch_sameArguments.2.1 21 = .ok (.aload_n 0, 1) := by decide +kernel
theorem d_XSearch_sameArguments_22 : decode Y_XSearch_sameArguments.2.1 22 = .ok (.getfield 24, 3) := by decide +kernel
theorem d_XSearch_sameArguments_25 : decode Y_XSearch_sameArguments.2.1 25 = .ok (.aload_n 0, 1) := by decide +kernel
theorem d_XSearch_sameArguments_26 : decode Y_XSearch_sameArguments.2.1 26 = .ok (.getfield 9, 3) := by decide +kernel
theorem d_XSearch_sameArguments_29 : decode Y_XSearch_sameArguments.2.1 29 = .ok (.getfield 103, 3) := by decide +kernel
theorem d_XSearch_sameArguments_32 : decode Y_XSearch_sameArguments.2.1 32 = .ok (.iload_n 1, 1) := by decide +kernel
theorem d_XSearch_sameArguments_33 : decode Y_XSearch_sameArguments.2.1 33 = .ok (.iaload, 1) := by decide +kernel
theorem d_XSearch_sameArguments_34 : decode Y_XSearch_sameArguments.2.1 34 = .ok (.aload_n 0, 1) := by decide +kernel
theorem d_XSearch_sameArguments_35 : decode Y_XSearch_sameArguments.2.1 35 = .ok (.getfield 9, 3) := by decide +kernel
theorem d_XSearch_sameArguments_38 : decode Y_XSearch_sameArguments.2.1 38 = .ok (.getfield 103, 3) := by decide +kernel
theorem d_XSearch_sameArguments_41 : decode Y_XSearch_sameArguments.2.1 41 = .ok (.iload_n 2, 1) := by decide +kernel
theorem d_XSearch_sameArguments_42 : decode Y_XSearch_sameArguments.2.1 42 = .ok (.iaload, 1) := by decide +kernel
theorem d_XSearch_sameArguments_43 : decode Y_XSearch_sameArguments.2.1 43 = .ok (.invokevirtual 195, 3) := by decide +kernel
theorem d_XSearch_sameArguments_46 : decode Y_XSearch_sameArguments.2.1 46 = .ok (.lstore 5, 2) := by decide +kernel
theorem d_XSearch_sameArguments_48 : decode Y_XSearch_sameArguments.2.1 48 = .ok (.iload_n 3, 1) := by decide +kernel
theorem d_XSearch_sameArguments_49 : decode Y_XSearch_sameArguments.2.1 49 = .ok (.iconst (-1), 1) := by decide +kernel
theorem d_XSearch_sameArguments_50 : decode Y_XSearch_sameArguments.2.1 50 = .ok (.if_icmp .eq (9), 3) := by decide +kernel
theorem d_XSearch_sameArguments_53 : decode Y_XSearch_sameArguments.2.1 53 = .ok (.iload 4, 2) := by decide +kernel
theorem d_XSearch_sameArguments_55 : decode Y_XSearch_sameArguments.2.1 55 = .ok (.iconst (-1), 1) := by decide +kernel
theorem d_XSearch_sameArguments_56 : decode Y_XSearch_sameArguments.2.1 56 = .ok (.if_icmp .ne (16), 3) := by decide +kernel
theorem d_XSearch_sameArguments_59 : decode Y_XSearch_sameArguments.2.1 59 = .ok (.iload_n 3, 1) := by decide +kernel
theorem d_XSearch_sameArguments_60 : decode Y_XSearch_sameArguments.2.1 60 = .ok (.iload 4, 2) := by decide +kernel
theorem d_XSearch_sameArguments_62 : decode Y_XSearch_sameArguments.2.1 62 = .ok (.if_icmp .ne (8), 3) := by decide +kernel
theorem d_XSearch_sameArguments_65 : decode Y_XSearch_sameArguments.2.1 65 = .ok (.lload 5, 2) := by decide +kernel
theorem d_XSearch_sameArguments_67 : decode Y_XSearch_sameArguments.2.1 67 = .ok (.goto (4), 3) := by decide +kernel
theorem d_XSearch_sameArguments_70 : decode Y_XSearch_sameArguments.2.1 70 = .ok (.lconst 0, 1) := by decide +kernel
theorem d_XSearch_sameArguments_71 : decode Y_XSearch_sameArguments.2.1 71 = .ok (.lreturn, 1) := by decide +kernel
theorem d_XSearch_sameArguments_72 : decode Y_XSearch_sameArguments.2.1 72 = .ok (.lload 5, 2) := by decide +kernel
theorem d_XSearch_sameArguments_74 : decode Y_XSearch_sameArguments.2.1 74 = .ok (.aload_n 0, 1) := by decide +kernel
theorem d_XSearch_sameArguments_75 : decode Y_XSearch_sameArguments.2.1 75 = .ok (.getfield 24, 3) := by decide +kernel
theorem d_XSearch_sameArguments_78 : decode Y_XSearch_sameArguments.2.1 78 = .ok (.iload_n 3, 1) := by decide +kernel
theorem d_XSearch_sameArguments_79 : decode Y_XSearch_sameArguments.2.1 79 = .ok (.iload 4, 2) := by decide +kernel
theorem d_XSearch_sameArguments_81 : decode Y_XSearch_sameArguments.2.1 81 = .ok (.invokevirtual 195, 3) := by decide +kernel
theorem d_XSearch_sameArguments_84 : decode Y_XSearch_sameArguments.2.1 84 = .ok (.land, 1) := by decide +kernel
theorem d_XSearch_sameArguments_85 : decode Y_XSearch_sameArguments.2.1 85 = .ok (.lreturn, 1) := by decide +kernel
def F_XSearch_sameArguments_71 (n : Nat) (s0 : Int64) (M : PM) : qO :=
  some (.inl (some (.long s0)), M)
set_option maxHeartbeats 4000000 in
set_option maxRecDepth 100000 in
theorem E_XSearch_sameArguments_71 {g : qG} {X : qX} {Z : qZ} (hn : 1 ≤ zn Z) (hl : 22 ≤ zl Z) {n : Nat} {s0 : Int64} {M : PM} (h : F_XSearch_sameArguments_71 n s0 M = some (zr Z, zf Z)) : EW Y_XSearch_sameArguments g X Z 71 [] [.long s0] M := by
  unfold F_XSearch_sameArguments_71 at h
  obtain ⟨hz, hm⟩ := Prod.mk.inj (Option.some.inj h)
  exact ew_lreturn d_XSearch_sameArguments_71 rfl hz.symm hm.symm
def F_XSearch_sameArguments_59 (n : Nat) (l3 : Int32) (l4 : Int32) (l5 : Int64) (M : PM) : qO :=
  if l3 = l4 then
    F_XSearch_sameArguments_71 n l5 M
  else
    F_XSearch_sameArguments_71 n (0 : Int64) M
set_option maxHeartbeats 4000000 in
set_option maxRecDepth 100000 in
theorem E_XSearch_sameArguments_59 {g : qG} {X : qX} {Z : qZ} (hn : 1 ≤ zn Z) (hl : 22 ≤ zl Z) {n : Nat} {l3 : Int32} {l4 : Int32} {l5 : Int64} {M : PM} (h : F_XSearch_sameArguments_59 n l3 l4 l5 M = some (zr Z, zf Z)) : EW Y_XSearch_sameArguments g X Z 59 [(3, .int l3), (4, .int l4), (5, .long l5)] [] M := by
  unfold F_XSearch_sameArguments_59 at h
  refine ew_iload_n 3 d_XSearch_sameArguments_59 rfl rfl ?_
  refine ew_iload d_XSearch_sameArguments_60 rfl ?_
  refine ew_icmp_ne 70 d_XSearch_sameArguments_62 (by decide) (fun c1 => ?_) (fun c1 => ?_)
  · rw [if_neg c1] at h
    refine ew_lconst 0 d_XSearch_sameArguments_70 (by decide) ?_
    exact ew_pick (L' := []) [] rfl (E_XSearch_sameArguments_71 hn hl h)
  · rw [if_pos c1] at h
    refine ew_lload d_XSearch_sameArguments_65 rfl ?_
    refine ew_goto 71 d_XSearch_sameArguments_67 (by decide) ?_
    exact ew_pick (L' := []) [] rfl (E_XSearch_sameArguments_71 hn hl h)
def F_XSearch_sameArguments (n : Nat) (l0 : Nat) (l1 : Int32) (l2 : Int32) (M : PM) : qO :=
  gR 8 M l0 0 (fun v1 =>
  gR 3 M v1 2 (fun v2 =>
  lI M v2 l1 (fun v3 =>
  gR 8 M l0 0 (fun v4 =>
  gR 3 M v4 2 (fun v5 =>
  lI M v5 l2 (fun v6 =>
  gR 8 M l0 2 (fun v7 =>
  gR 8 M l0 0 (fun v8 =>
  gR 3 M v8 1 (fun v9 =>
  lI M v9 l1 (fun v10 =>
  gR 8 M l0 0 (fun v11 =>
  gR 3 M v11 1 (fun v12 =>
  lI M v12 l2 (fun v13 =>
  kO 5 M v7 (
  cL (F_XPlanes_same n v7 v10 v13 M) (fun v15 M14 =>
  if v3 = (-1 : Int32) then
    F_XSearch_sameArguments_59 n v3 v6 v15 M14
  else
    if v6 = (-1 : Int32) then
      F_XSearch_sameArguments_59 n v3 v6 v15 M14
    else
      gR 8 M14 l0 2 (fun v18 =>
      kO 5 M14 v18 (
      cL (F_XPlanes_same n v18 v3 v6 M14) (fun v20 M19 =>
      some (.inl (some (.long (v15 &&& v20))), M19)))))))))))))))))))
set_option maxHeartbeats 4000000 in
set_option maxRecDepth 100000 in
theorem E_XSearch_sameArguments {g : qG} {X : qX} {Z : qZ} (hn : 1 ≤ zn Z) (hl : 22 ≤ zl Z) {n : Nat} {l0 : Nat} {l1 : Int32} {l2 : Int32} {M : PM} (h : F_XSearch_sameArguments n l0 l1 l2 M = some (zr Z, zf Z)) : EW Y_XSearch_sameArguments g X Z 0 [(0, .ref l0), (1, .int l1), (2, .int l2)] [] M := by
  unfold F_XSearch_sameArguments at h
  refine ew_aload_n 0 d_XSearch_sameArguments_0 rfl rfl ?_
  obtain ⟨v1, av1, bv1, h⟩ := gR_inv h
  refine ew_gR 8 0 d_XSearch_sameArguments_1 fl_XSearch_9 av1 bv1 ?_
  obtain ⟨v2, av2, bv2, h⟩ := gR_inv h
  refine ew_gR 3 2 d_XSearch_sameArguments_4 fl_XSearch_137 av2 bv2 ?_
  refine ew_iload_n 1 d_XSearch_sameArguments_7 rfl rfl ?_
  obtain ⟨v3, av3, bv3, cv3, ev3, h⟩ := lI_inv h
  refine ew_lI d_XSearch_sameArguments_8 av3 bv3 cv3 ev3 ?_
  refine ew_istore_n (L' := [(0, .ref l0), (1, .int l1), (2, .int l2), (3, .int v3)]) 3 [1, 2, 3, 0] d_XSearch_sameArguments_9 rfl (by decide) rfl ?_
  refine ew_aload_n 0 d_XSearch_sameArguments_10 rfl rfl ?_
  obtain ⟨v4, av4, bv4, h⟩ := gR_inv h
  refine ew_gR 8 0 d_XSearch_sameArguments_11 fl_XSearch_9 av4 bv4 ?_
  obtain ⟨v5, av5, bv5, h⟩ := gR_inv h
  refine ew_gR 3 2 d_XSearch_sameArguments_14 fl_XSearch_137 av5 bv5 ?_
  refine ew_iload_n 2 d_XSearch_sameArguments_17 rfl rfl ?_
  obtain ⟨v6, av6, bv6, cv6, ev6, h⟩ := lI_inv h
  refine ew_lI d_XSearch_sameArguments_18 av6 bv6 cv6 ev6 ?_
  refine ew_istore (L' := [(0, .ref l0), (1, .int l1), (2, .int l2), (3, .int v3), (4, .int v6)]) [1, 2, 3, 4, 0] d_XSearch_sameArguments_19 (by decide) rfl ?_
  refine ew_aload_n 0 d_XSearch_sameArguments_21 rfl rfl ?_
  obtain ⟨v7, av7, bv7, h⟩ := gR_inv h
  refine ew_gR 8 2 d_XSearch_sameArguments_22 fl_XSearch_24 av7 bv7 ?_
  refine ew_aload_n 0 d_XSearch_sameArguments_25 rfl rfl ?_
  obtain ⟨v8, av8, bv8, h⟩ := gR_inv h
  refine ew_gR 8 0 d_XSearch_sameArguments_26 fl_XSearch_9 av8 bv8 ?_
  obtain ⟨v9, av9, bv9, h⟩ := gR_inv h
  refine ew_gR 3 1 d_XSearch_sameArguments_29 fl_XSearch_103 av9 bv9 ?_
  refine ew_iload_n 1 d_XSearch_sameArguments_32 rfl rfl ?_
  obtain ⟨v10, av10, bv10, cv10, ev10, h⟩ := lI_inv h
  refine ew_lI d_XSearch_sameArguments_33 av10 bv10 cv10 ev10 ?_
  refine ew_aload_n 0 d_XSearch_sameArguments_34 rfl rfl ?_
  obtain ⟨v11, av11, bv11, h⟩ := gR_inv h
  refine ew_gR 8 0 d_XSearch_sameArguments_35 fl_XSearch_9 av11 bv11 ?_
  obtain ⟨v12, av12, bv12, h⟩ := gR_inv h
  refine ew_gR 3 1 d_XSearch_sameArguments_38 fl_XSearch_103 av12 bv12 ?_
  refine ew_iload_n 2 d_XSearch_sameArguments_41 rfl rfl ?_
  obtain ⟨v13, av13, bv13, cv13, ev13, h⟩ := lI_inv h
  refine ew_lI d_XSearch_sameArguments_42 av13 bv13 cv13 ev13 ?_
  obtain ⟨kM14, h⟩ := kO_inv h
  obtain ⟨v15, M14, hM14, h⟩ := cL_inv h
  refine ew_callV 5 [.int v10, .int v13] d_XSearch_sameArguments_43 cv_XSearch_195 (T_XPlanes_same hM14) kM14 (Nat.le_trans (Nat.le_of_ble_eq_true rfl) hn) (Nat.le_trans (Nat.le_of_ble_eq_true rfl) hl) (Nat.le_of_ble_eq_true rfl) rfl rfl ?_
  refine ew_lstore (L' := [(0, .ref l0), (1, .int l1), (2, .int l2), (3, .int v3), (4, .int v6), (5, .long v15)]) [1, 2, 3, 4, 5, 0] d_XSearch_sameArguments_46 (by decide) rfl ?_
  refine ew_iload_n 3 d_XSearch_sameArguments_48 rfl rfl ?_
  refine ew_iconst (-1) d_XSearch_sameArguments_49 (by decide) ?_
  refine ew_icmp_eq 59 d_XSearch_sameArguments_50 (by decide) (fun c16 => ?_) (fun c16 => ?_)
  · rw [if_pos c16] at h
    exact ew_pick (L' := [(3, .int v3), (4, .int v6), (5, .long v15)]) [3, 4, 5] rfl (E_XSearch_sameArguments_59 hn hl h)
  · rw [if_neg c16] at h
    refine ew_iload d_XSearch_sameArguments_53 rfl ?_
    refine ew_iconst (-1) d_XSearch_sameArguments_55 (by decide) ?_
    refine ew_icmp_ne 72 d_XSearch_sameArguments_56 (by decide) (fun c17 => ?_) (fun c17 => ?_)
    · rw [if_neg c17] at h
      refine ew_lload d_XSearch_sameArguments_72 rfl ?_
      refine ew_aload_n 0 d_XSearch_sameArguments_74 rfl rfl ?_
      obtain ⟨v18, av18, bv18, h⟩ := gR_inv h
      refine ew_gR 8 2 d_XSearch_sameArguments_75 fl_XSearch_24 av18 bv18 ?_
      refine ew_iload_n 3 d_XSearch_sameArguments_78 rfl rfl ?_
      refine ew_iload d_XSearch_sameArguments_79 rfl ?_
      obtain ⟨kM19, h⟩ := kO_inv h
      obtain ⟨v20, M19, hM19, h⟩ := cL_inv h
      refine ew_callV 5 [.int v3, .int v6] d_XSearch_sameArguments_81 cv_XSearch_195 (T_XPlanes_same hM19) kM19 (Nat.le_trans (Nat.le_of_ble_eq_true rfl) hn) (Nat.le_trans (Nat.le_of_ble_eq_true rfl) hl) (Nat.le_of_ble_eq_true rfl) rfl rfl ?_
      refine ew_land d_XSearch_sameArguments_84 ?_
      obtain ⟨hz, hm⟩ := Prod.mk.inj (Option.some.inj h)
      exact ew_lreturn d_XSearch_sameArguments_85 rfl hz.symm hm.symm
    · rw [if_pos c17] at h
      exact ew_pick (L' := [(3, .int v3), (4, .int v6), (5, .long v15)]) [3, 4, 5] rfl (E_XSearch_sameArguments_59 hn hl h)
theorem T_XSearch_sameArguments {n : Nat} {l0 : Nat} {l1 : Int32} {l2 : Int32} {M Mf : PM} {res : qRs} (h : F_XSearch_sameArguments n l0 l1 l2 M = some (res, Mf)) : CT Y_XSearch_sameArguments 1 22 [.ref l0, .int l1, .int l2] M res Mf :=
  CT_of (by decide) (Nat.le_of_ble_eq_true rfl) (qHd_ne (by decide)) (fun g X ad0 => E_XSearch_sameArguments (g := g) (X := X) (Z := (ad0, M, res, Mf, 1, 22)) (Nat.le_refl _) (Nat.le_refl _) h)
theorem d_XSearch_withFunctions_0 : decode Y_XSearch_withFunctions.2.1 0 = .ok (.aload_n 0, 1) := by decide +kernel
theorem d_XSearch_withFunctions_1 : decode Y_XSearch_withFunctions.2.1 1 = .ok (.getfield 32, 3) := by decide +kernel
theorem d_XSearch_withFunctions_4 : decode Y_XSearch_withFunctions.2.1 4 = .ok (.iload_n 1, 1) := by decide +kernel
theorem d_XSearch_withFunctions_5 : decode Y_XSearch_withFunctions.2.1 5 = .ok (.iaload, 1) := by decide +kernel
theorem d_XSearch_withFunctions_6 : decode Y_XSearch_withFunctions.2.1 6 = .ok (.istore 5, 2) := by decide +kernel
theorem d_XSearch_withFunctions_8 : decode Y_XSearch_withFunctions.2.1 8 = .ok (.lload_n 3, 1) := by decide +kernel
theorem d_XSearch_withFunctions_9 : decode Y_XSearch_withFunctions.2.1 9 = .ok (.lstore 6, 2) := by decide +kernel
theorem d_XSearch_withFunctions_11 : decode Y_XSearch_withFunctions.2.1 11 = .ok (.aload_n 0, 1) := by decide +kernel
theorem d_XSearch_withFunctions_12 : decode Y_XSearch_withFunctions.2.1 12 = .ok (.getfield 108, 3) := by decide +kernel
theorem d_XSearch_withFunctions_15 : decode Y_XSearch_withFunctions.2.1 15 = .ok (.istore 8, 2) := by decide +kernel
theorem d_XSearch_withFunctions_17 : decode Y_XSearch_withFunctions.2.1 17 = .ok (.iload 8, 2) := by decide +kernel
theorem d_XSearch_withFunctions_19 : decode Y_XSearch_withFunctions.2.1 19 = .ok (.iload_n 1, 1) := by decide +kernel
theorem d_XSearch_withFunctions_20 : decode Y_XSearch_withFunctions.2.1 20 = .ok (.if_icmp .ge (69), 3) := by decide +kernel
theorem d_XSearch_withFunctions_23 : decode Y_XSearch_withFunctions.2.1 23 = .ok (.aload_n 0, 1) := by decide +kernel
theorem d_XSearch_withFunctions_24 : decode Y_XSearch_withFunctions.2.1 24 = .ok (.getfield 32, 3) := by decide +kernel
theorem d_XSearch_withFunctions_27 : decode Y_XSearch_withFunctions.2.1 27 = .ok (.iload 8, 2) := by decide +kernel
theorem d_XSearch_withFunctions_29 : decode Y_XSearch_withFunctions.2.1 29 = .ok (.iaload, 1) := by decide +kernel
theorem d_XSearch_withFunctions_30 : decode Y_XSearch_withFunctions.2.1 30 = .ok (.istore 9, 2) := by decide +kernel
theorem d_XSearch_withFunctions_32 : decode Y_XSearch_withFunctions.2.1 32 = .ok (.aload_n 0, 1) := by decide +kernel
theorem d_XSearch_withFunctions_33 : decode Y_XSearch_withFunctions.2.1 33 = .ok (.getfield 35, 3) := by decide +kernel
theorem d_XSearch_withFunctions_36 : decode Y_XSearch_withFunctions.2.1 36 = .ok (.iload 8, 2) := by decide +kernel
theorem d_XSearch_withFunctions_38 : decode Y_XSearch_withFunctions.2.1 38 = .ok (.iaload, 1) := by decide +kernel
theorem d_XSearch_withFunctions_39 : decode Y_XSearch_withFunctions.2.1 39 = .ok (.iload_n 2, 1) := by decide +kernel
theorem d_XSearch_withFunctions_40 : decode Y_XSearch_withFunctions.2.1 40 = .ok (.if_icmp .eq (43), 3) := by decide +kernel
theorem d_XSearch_withFunctions_43 : decode Y_XSearch_withFunctions.2.1 43 = .ok (.aload_n 0, 1) := by decide +kernel
theorem d_XSearch_withFunctions_44 : decode Y_XSearch_withFunctions.2.1 44 = .ok (.getfield 9, 3) := by decide +kernel
theorem d_XSearch_withFunctions_47 : decode Y_XSearch_withFunctions.2.1 47 = .ok (.getfield 146, 3) := by decide +kernel
theorem d_XSearch_withFunctions_50 : decode Y_XSearch_withFunctions.2.1 50 = .ok (.iload 9, 2) := by decide +kernel
theorem d_XSearch_withFunctions_52 : decode Y_XSearch_withFunctions.2.1 52 = .ok (.iaload, 1) := by decide +kernel
theorem d_XSearch_withFunctions_53 : decode Y_XSearch_withFunctions.2.1 53 = .ok (.aload_n 0, 1) := by decide +kernel
theorem d_XSearch_withFunctions_54 : decode Y_XSearch_withFunctions.2.1 54 = .ok (.getfield 9, 3) := by decide +kernel
theorem d_XSearch_withFunctions_57 : decode Y_XSearch_withFunctions.2.1 57 = .ok (.getfield 146, 3) := by decide +kernel
theorem d_XSearch_withFunctions_60 : decode Y_XSearch_withFunctions.2.1 60 = .ok (.iload 5, 2) := by decide +kernel
theorem d_XSearch_withFunctions_62 : decode Y_XSearch_withFunctions.2.1 62 = .ok (.iaload, 1) := by decide +kernel
theorem d_XSearch_withFunctions_63 : decode Y_XSearch_withFunctions.2.1 63 = .ok (.if_icmp .ne (20), 3) := by decide +kernel
theorem d_XSearch_withFunctions_66 : decode Y_XSearch_withFunctions.2.1 66 = .ok (.lload 6, 2) := by decide +kernel
theorem d_XSearch_withFunctions_68 : decode Y_XSearch_withFunctions.2.1 68 = .ok (.aload_n 0, 1) := by decide +kernel
theorem d_XSearch_withFunctions_69 : decode Y_XSearch_withFunctions.2.1 69 = .ok (.iload 5, 2) := by decide +kernel
theorem d_XSearch_withFunctions_71 : decode Y_XSearch_withFunctions.2.1 71 = .ok (.iload 9, 2) := by decide +kernel
theorem d_XSearch_withFunctions_73 : decode Y_XSearch_withFunctions.2.1 73 = .ok (.invokevirtual 191, 3) := by decide +kernel
theorem d_XSearch_withFunctions_76 : decode Y_XSearch_withFunctions.2.1 76 = .ok (.ldc2_w 159, 3) := by decide +kernel
theorem d_XSearch_withFunctions_79 : decode Y_XSearch_withFunctions.2.1 79 = .ok (.lxor, 1) := by decide +kernel
theorem d_XSearch_withFunctions_80 : decode Y_XSearch_withFunctions.2.1 80 = .ok (.land, 1) := by decide +kernel
theorem d_XSearch_withFunctions_81 : decode Y_XSearch_withFunctions.2.1 81 = .ok (.lstore 6, 2) := by decide +kernel
theorem d_XSearch_withFunctions_83 : decode Y_XSearch_withFunctions.2.1 83 = .ok (.iinc 8 (1), 3) := by decide +kernel
theorem d_XSearch_withFunctions_86 : decode Y_XSearch_withFunctions.2.1 86 = .ok (.goto (-69), 3) := by decide +kernel
theorem d_XSearch_withFunctions_89 : decode Y_XSearch_withFunctions.2.1 89 = .ok (.lload 6, 2) := by decide +kernel
theorem d_XSearch_withFunctions_91 : decode Y_XSearch_withFunctions.2.1 91 = .ok (.lreturn, 1) := by decide +kernel
def F_XSearch_withFunctions_83 (n : Nat) (rec17 : Nat → Int32 → Int32 → Int32 → Int64 → Int32 → PM → qO) (l0 : Nat) (l1 : Int32) (l2 : Int32) (l5 : Int32) (l6 : Int64) (l8 : Int32) (M : PM) : qO :=
  bI (l8 + (1 : Int32)) (fun v1 =>
  rec17 l0 l1 l2 l5 l6 v1 M)
set_option maxHeartbeats 4000000 in
set_option maxRecDepth 100000 in
theorem E_XSearch_withFunctions_83 {g : qG} {X : qX} {Z : qZ} (hn : 2 ≤ zn Z) (hl : 48 ≤ zl Z) {n : Nat} {rec17 : Nat → Int32 → Int32 → Int32 → Int64 → Int32 → PM → qO} (hrec17 : ∀ (l0 : Nat) (l1 : Int32) (l2 : Int32) (l5 : Int32) (l6 : Int64) (l8 : Int32) (M : PM), rec17 l0 l1 l2 l5 l6 l8 M = some (zr Z, zf Z) → EW Y_XSearch_withFunctions g X Z 17 [(0, .ref l0), (1, .int l1), (2, .int l2), (5, .int l5), (6, .long l6), (8, .int l8)] [] M) {l0 : Nat} {l1 : Int32} {l2 : Int32} {l5 : Int32} {l6 : Int64} {l8 : Int32} {M : PM} (h : F_XSearch_withFunctions_83 n rec17 l0 l1 l2 l5 l6 l8 M = some (zr Z, zf Z)) : EW Y_XSearch_withFunctions g X Z 83 [(0, .ref l0), (1, .int l1), (2, .int l2), (5, .int l5), (6, .long l6), (8, .int l8)] [] M := by
  unfold F_XSearch_withFunctions_83 at h
  obtain ⟨v1, ev1, h⟩ := bI_inv h
  refine ew_iinc (L' := [(0, .ref l0), (1, .int l1), (2, .int l2), (5, .int l5), (6, .long l6), (8, .int v1)]) v1 [1, 2, 3, 4, 5, 0] d_XSearch_withFunctions_83 rfl (by rw [ev1]; rfl) (by decide) rfl ?_
  refine ew_goto 17 d_XSearch_withFunctions_86 (by decide) ?_
  exact hrec17 l0 l1 l2 l5 l6 v1 M h
def F_XSearch_withFunctions_17 (n : Nat) : Nat → Nat → Int32 → Int32 → Int32 → Int64 → Int32 → PM → qO
  | 0, _, _, _, _, _, _, _ => none
  | f + 1, l0, l1, l2, l5, l6, l8, M =>
    if l1 ≤ l8 then
      some (.inl (some (.long l6)), M)
    else
      gR 8 M l0 4 (fun v2 =>
      lI M v2 l8 (fun v3 =>
      gR 8 M l0 5 (fun v4 =>
      lI M v4 l8 (fun v5 =>
      if v5 = l2 then
        F_XSearch_withFunctions_83 n (F_XSearch_withFunctions_17 n f) l0 l1 l2 l5 l6 l8 M
      else
        gR 8 M l0 0 (fun v7 =>
        gR 3 M v7 3 (fun v8 =>
        lI M v8 v3 (fun v9 =>
        gR 8 M l0 0 (fun v10 =>
        gR 3 M v10 3 (fun v11 =>
        lI M v11 l5 (fun v12 =>
        if v9 = v12 then
          kO 8 M l0 (
          cL (F_XSearch_sameArguments n l0 l5 v3 M) (fun v15 M14 =>
          bL (l6 &&& (v15 ^^^ (-1 : Int64))) (fun v16 =>
          F_XSearch_withFunctions_83 n (F_XSearch_withFunctions_17 n f) l0 l1 l2 l5 v16 l8 M14)))
        else
          F_XSearch_withFunctions_83 n (F_XSearch_withFunctions_17 n f) l0 l1 l2 l5 l6 l8 M))))))))))
set_option maxHeartbeats 4000000 in
set_option maxRecDepth 100000 in
theorem E_XSearch_withFunctions_17 {g : qG} {X : qX} {Z : qZ} (hn : 2 ≤ zn Z) (hl : 48 ≤ zl Z) {n : Nat} : ∀ (f : Nat) (l0 : Nat) (l1 : Int32) (l2 : Int32) (l5 : Int32) (l6 : Int64) (l8 : Int32) (M : PM), F_XSearch_withFunctions_17 n f l0 l1 l2 l5 l6 l8 M = some (zr Z, zf Z) → EW Y_XSearch_withFunctions g X Z 17 [(0, .ref l0), (1, .int l1), (2, .int l2), (5, .int l5), (6, .long l6), (8, .int l8)] [] M := by
  intro f
  induction f with
  | zero => intro l0 l1 l2 l5 l6 l8 M h; rw [F_XSearch_withFunctions_17] at h; cases h
  | succ f ih =>
    intro l0 l1 l2 l5 l6 l8 M h
    rw [F_XSearch_withFunctions_17] at h
    refine ew_iload d_XSearch_withFunctions_17 rfl ?_
    refine ew_iload_n 1 d_XSearch_withFunctions_19 rfl rfl ?_
    refine ew_icmp_ge 89 d_XSearch_withFunctions_20 (by decide) (fun c1 => ?_) (fun c1 => ?_)
    · rw [if_pos c1] at h
      refine ew_lload d_XSearch_withFunctions_89 rfl ?_
      obtain ⟨hz, hm⟩ := Prod.mk.inj (Option.some.inj h)
      exact ew_lreturn d_XSearch_withFunctions_91 rfl hz.symm hm.symm
    · rw [if_neg c1] at h
      refine ew_aload_n 0 d_XSearch_withFunctions_23 rfl rfl ?_
      obtain ⟨v2, av2, bv2, h⟩ := gR_inv h
      refine ew_gR 8 4 d_XSearch_withFunctions_24 fl_XSearch_32 av2 bv2 ?_
      refine ew_iload d_XSearch_withFunctions_27 rfl ?_
      obtain ⟨v3, av3, bv3, cv3, ev3, h⟩ := lI_inv h
      refine ew_lI d_XSearch_withFunctions_29 av3 bv3 cv3 ev3 ?_
      refine ew_istore (L' := [(0, .ref l0), (1, .int l1), (2, .int l2), (5, .int l5), (6, .long l6), (8, .int l8), (9, .int v3)]) [1, 2, 3, 4, 5, 6, 0] d_XSearch_withFunctions_30 (by decide) rfl ?_
      refine ew_aload_n 0 d_XSearch_withFunctions_32 rfl rfl ?_
      obtain ⟨v4, av4, bv4, h⟩ := gR_inv h
      refine ew_gR 8 5 d_XSearch_withFunctions_33 fl_XSearch_35 av4 bv4 ?_
      refine ew_iload d_XSearch_withFunctions_36 rfl ?_
      obtain ⟨v5, av5, bv5, cv5, ev5, h⟩ := lI_inv h
      refine ew_lI d_XSearch_withFunctions_38 av5 bv5 cv5 ev5 ?_
      refine ew_iload_n 2 d_XSearch_withFunctions_39 rfl rfl ?_
      refine ew_icmp_eq 83 d_XSearch_withFunctions_40 (by decide) (fun c6 => ?_) (fun c6 => ?_)
      · rw [if_pos c6] at h
        exact ew_pick (L' := [(0, .ref l0), (1, .int l1), (2, .int l2), (5, .int l5), (6, .long l6), (8, .int l8)]) [0, 1, 2, 3, 4, 5] rfl (E_XSearch_withFunctions_83 hn hl ih h)
      · rw [if_neg c6] at h
        refine ew_aload_n 0 d_XSearch_withFunctions_43 rfl rfl ?_
        obtain ⟨v7, av7, bv7, h⟩ := gR_inv h
        refine ew_gR 8 0 d_XSearch_withFunctions_44 fl_XSearch_9 av7 bv7 ?_
        obtain ⟨v8, av8, bv8, h⟩ := gR_inv h
        refine ew_gR 3 3 d_XSearch_withFunctions_47 fl_XSearch_146 av8 bv8 ?_
        refine ew_iload d_XSearch_withFunctions_50 rfl ?_
        obtain ⟨v9, av9, bv9, cv9, ev9, h⟩ := lI_inv h
        refine ew_lI d_XSearch_withFunctions_52 av9 bv9 cv9 ev9 ?_
        refine ew_aload_n 0 d_XSearch_withFunctions_53 rfl rfl ?_
        obtain ⟨v10, av10, bv10, h⟩ := gR_inv h
        refine ew_gR 8 0 d_XSearch_withFunctions_54 fl_XSearch_9 av10 bv10 ?_
        obtain ⟨v11, av11, bv11, h⟩ := gR_inv h
        refine ew_gR 3 3 d_XSearch_withFunctions_57 fl_XSearch_146 av11 bv11 ?_
        refine ew_iload d_XSearch_withFunctions_60 rfl ?_
        obtain ⟨v12, av12, bv12, cv12, ev12, h⟩ := lI_inv h
        refine ew_lI d_XSearch_withFunctions_62 av12 bv12 cv12 ev12 ?_
        refine ew_icmp_ne 83 d_XSearch_withFunctions_63 (by decide) (fun c13 => ?_) (fun c13 => ?_)
        · rw [if_neg c13] at h
          exact ew_pick (L' := [(0, .ref l0), (1, .int l1), (2, .int l2), (5, .int l5), (6, .long l6), (8, .int l8)]) [0, 1, 2, 3, 4, 5] rfl (E_XSearch_withFunctions_83 hn hl ih h)
        · rw [if_pos c13] at h
          refine ew_lload d_XSearch_withFunctions_66 rfl ?_
          refine ew_aload_n 0 d_XSearch_withFunctions_68 rfl rfl ?_
          refine ew_iload d_XSearch_withFunctions_69 rfl ?_
          refine ew_iload d_XSearch_withFunctions_71 rfl ?_
          obtain ⟨kM14, h⟩ := kO_inv h
          obtain ⟨v15, M14, hM14, h⟩ := cL_inv h
          refine ew_callV 8 [.int l5, .int v3] d_XSearch_withFunctions_73 cv_XSearch_191 (T_XSearch_sameArguments hM14) kM14 (Nat.le_trans (Nat.le_of_ble_eq_true rfl) hn) (Nat.le_trans (Nat.le_of_ble_eq_true rfl) hl) (Nat.le_of_ble_eq_true rfl) rfl rfl ?_
          refine ew_ldc2 (-1) d_XSearch_withFunctions_76 ct_XSearch_159 ?_
          refine ew_lxor d_XSearch_withFunctions_79 ?_
          refine ew_land d_XSearch_withFunctions_80 ?_
          obtain ⟨v16, ev16, h⟩ := bL_inv h
          refine ew_topL ev16 ?_
          refine ew_lstore (L' := [(0, .ref l0), (1, .int l1), (2, .int l2), (5, .int l5), (6, .long v16), (8, .int l8), (9, .int v3)]) [1, 2, 3, 4, 0, 5, 6] d_XSearch_withFunctions_81 (by decide) rfl ?_
          exact ew_pick (L' := [(0, .ref l0), (1, .int l1), (2, .int l2), (5, .int l5), (6, .long v16), (8, .int l8)]) [0, 1, 2, 3, 4, 5] rfl (E_XSearch_withFunctions_83 hn hl ih h)
def F_XSearch_withFunctions (n : Nat) (l0 : Nat) (l1 : Int32) (l2 : Int32) (l3 : Int64) (M : PM) : qO :=
  gR 8 M l0 4 (fun v1 =>
  lI M v1 l1 (fun v2 =>
  gI 8 M l0 12 (fun v3 =>
  F_XSearch_withFunctions_17 n n l0 l1 l2 v2 l3 v3 M)))
set_option maxHeartbeats 4000000 in
set_option maxRecDepth 100000 in
theorem E_XSearch_withFunctions {g : qG} {X : qX} {Z : qZ} (hn : 2 ≤ zn Z) (hl : 48 ≤ zl Z) {n : Nat} {l0 : Nat} {l1 : Int32} {l2 : Int32} {l3 : Int64} {M : PM} (h : F_XSearch_withFunctions n l0 l1 l2 l3 M = some (zr Z, zf Z)) : EW Y_XSearch_withFunctions g X Z 0 [(0, .ref l0), (1, .int l1), (2, .int l2), (3, .long l3)] [] M := by
  unfold F_XSearch_withFunctions at h
  refine ew_aload_n 0 d_XSearch_withFunctions_0 rfl rfl ?_
  obtain ⟨v1, av1, bv1, h⟩ := gR_inv h
  refine ew_gR 8 4 d_XSearch_withFunctions_1 fl_XSearch_32 av1 bv1 ?_
  refine ew_iload_n 1 d_XSearch_withFunctions_4 rfl rfl ?_
  obtain ⟨v2, av2, bv2, cv2, ev2, h⟩ := lI_inv h
  refine ew_lI d_XSearch_withFunctions_5 av2 bv2 cv2 ev2 ?_
  refine ew_istore (L' := [(0, .ref l0), (1, .int l1), (2, .int l2), (3, .long l3), (5, .int v2)]) [1, 2, 3, 4, 0] d_XSearch_withFunctions_6 (by decide) rfl ?_
  refine ew_lload_n 3 d_XSearch_withFunctions_8 rfl rfl ?_
  refine ew_lstore (L' := [(0, .ref l0), (1, .int l1), (2, .int l2), (3, .long l3), (5, .int v2), (6, .long l3)]) [1, 2, 3, 4, 5, 0] d_XSearch_withFunctions_9 (by decide) rfl ?_
  refine ew_aload_n 0 d_XSearch_withFunctions_11 rfl rfl ?_
  obtain ⟨v3, av3, bv3, h⟩ := gI_inv h
  refine ew_gI 8 12 d_XSearch_withFunctions_12 fl_XSearch_108 av3 bv3 ?_
  refine ew_istore (L' := [(0, .ref l0), (1, .int l1), (2, .int l2), (3, .long l3), (5, .int v2), (6, .long l3), (8, .int v3)]) [1, 2, 3, 4, 5, 6, 0] d_XSearch_withFunctions_15 (by decide) rfl ?_
  exact ew_pick (L' := [(0, .ref l0), (1, .int l1), (2, .int l2), (5, .int v2), (6, .long l3), (8, .int v3)]) [0, 1, 2, 4, 5, 6] rfl (E_XSearch_withFunctions_17 hn hl n l0 l1 l2 v2 l3 v3 M h)
theorem T_XSearch_withFunctions {n : Nat} {l0 : Nat} {l1 : Int32} {l2 : Int32} {l3 : Int64} {M Mf : PM} {res : qRs} (h : F_XSearch_withFunctions n l0 l1 l2 l3 M = some (res, Mf)) : CT Y_XSearch_withFunctions 2 48 [.ref l0, .int l1, .int l2, .long l3] M res Mf :=
  CT_of (by decide) (Nat.le_of_ble_eq_true rfl) (qHd_ne (by decide)) (fun g X ad0 => E_XSearch_withFunctions (g := g) (X := X) (Z := (ad0, M, res, Mf, 2, 48)) (Nat.le_refl _) (Nat.le_refl _) h)
