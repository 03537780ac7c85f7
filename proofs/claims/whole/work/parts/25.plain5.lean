theorem d_XSearch_collectNode_0 : decode Y_XSearch_collectNode.2.1 0 = .ok (.iload_n 2, 1) := by decide +kernel
theorem d_XSearch_collectNode_1 : decode Y_XSearch_collectNode.2.1 1 = .ok (.iconst 4, 1) := by decide +kernel
theorem d_XSearch_collectNode_2 : decode Y_XSearch_collectNode.2.1 2 = .ok (.if_icmp .ne (11), 3) := by decide +kernel
theorem d_XSearch_collectNode_5 : decode Y_XSearch_collectNode.2.1 5 = .ok (.aload_n 0, 1) := by decide +kernel
theorem d_XSearch_collectNode_6 : decode Y_XSearch_collectNode.2.1 6 = .ok (.iload_n 1, 1) := by decide +kernel
theorem d_XSearch_collectNode_7 : decode Y_XSearch_collectNode.2.1 7 = .ok (.invokevirtual 124, 3) := by decide +kernel
theorem d_XSearch_collectNode_10 : decode Y_XSearch_collectNode.2.1 10 = .ok (.goto (31), 3) := by decide +kernel
theorem d_XSearch_collectNode_13 : decode Y_XSearch_collectNode.2.1 13 = .ok (.iload_n 2, 1) := by decide +kernel
theorem d_XSearch_collectNode_14 : decode Y_XSearch_collectNode.2.1 14 = .ok (.iconst 3, 1) := by decide +kernel
theorem d_XSearch_collectNode_15 : decode Y_XSearch_collectNode.2.1 15 = .ok (.if_icmp .eq (8), 3) := by decide +kernel
theorem d_XSearch_collectNode_18 : decode Y_XSearch_collectNode.2.1 18 = .ok (.iload_n 2, 1) := by decide +kernel
theorem d_XSearch_collectNode_19 : decode Y_XSearch_collectNode.2.1 19 = .ok (.iconst 5, 1) := by decide +kernel
theorem d_XSearch_collectNode_20 : decode Y_XSearch_collectNode.2.1 20 = .ok (.if_icmp .ne (21), 3) := by decide +kernel
theorem d_XSearch_collectNode_23 : decode Y_XSearch_collectNode.2.1 23 = .ok (.aload_n 0, 1) := by decide +kernel
theorem d_XSearch_collectNode_24 : decode Y_XSearch_collectNode.2.1 24 = .ok (.iload_n 1, 1) := by decide +kernel
theorem d_XSearch_collectNode_25 : decode Y_XSearch_collectNode.2.1 25 = .ok (.invokevirtual 127, 3) := by decide +kernel
theorem d_XSearch_collectNode_28 : decode Y_XSearch_collectNode.2.1 28 = .ok (.iload_n 2, 1) := by decide +kernel
theorem d_XSearch_collectNode_29 : decode Y_XSearch_collectNode.2.1 29 = .ok (.iconst 3, 1) := by decide +kernel
theorem d_XSearch_collectNode_30 : decode Y_XSearch_collectNode.2.1 30 = .ok (.if_icmp .ne (11), 3) := by decide +kernel
theorem d_XSearch_collectNode_33 : decode Y_XSearch_collectNode.2.1 33 = .ok (.aload_n 0, 1) := by decide +kernel
theorem d_XSearch_collectNode_34 : decode Y_XSearch_collectNode.2.1 34 = .ok (.aload_n 0, 1) := by decide +kernel
theorem d_XSearch_collectNode_35 : decode Y_XSearch_collectNode.2.1 35 = .ok (.getfield 111, 3) := by decide +kernel
theorem d_XSearch_collectNode_38 : decode Y_XSearch_collectNode.2.1 38 = .ok (.putfield 108, 3) := by decide +kernel
theorem d_XSearch_collectNode_41 : decode Y_XSearch_collectNode.2.1 41 = .ok (.return_, 1) := by decide +kernel
def F_XSearch_collectNode_41 (n : Nat) (M : PM) : qO :=
  some (.inl none, M)
set_option maxHeartbeats 4000000 in
set_option maxRecDepth 100000 in
theorem E_XSearch_collectNode_41 {g : qG} {X : qX} {Z : qZ} (hn : 1 ≤ zn Z) (hl : 21 ≤ zl Z) {n : Nat} {M : PM} (h : F_XSearch_collectNode_41 n M = some (zr Z, zf Z)) : EW Y_XSearch_collectNode g X Z 41 [] [] M := by
  unfold F_XSearch_collectNode_41 at h
  obtain ⟨hz, hm⟩ := Prod.mk.inj (Option.some.inj h)
  exact ew_return d_XSearch_collectNode_41 rfl hz.symm hm.symm
def F_XSearch_collectNode_23 (n : Nat) (l0 : Nat) (l1 : Int32) (l2 : Int32) (M : PM) : qO :=
  kO 8 M l0 (
  cV (F_XSearch_addWord n l0 l1 M) (fun M1 =>
  if l2 = (3 : Int32) then
    gI 8 M1 l0 11 (fun v3 =>
    pF 8 M1 l0 12 (.int v3) (fun M4 =>
    F_XSearch_collectNode_41 n M4))
  else
    F_XSearch_collectNode_41 n M1))
set_option maxHeartbeats 4000000 in
set_option maxRecDepth 100000 in
theorem E_XSearch_collectNode_23 {g : qG} {X : qX} {Z : qZ} (hn : 1 ≤ zn Z) (hl : 21 ≤ zl Z) {n : Nat} {l0 : Nat} {l1 : Int32} {l2 : Int32} {M : PM} (h : F_XSearch_collectNode_23 n l0 l1 l2 M = some (zr Z, zf Z)) : EW Y_XSearch_collectNode g X Z 23 [(0, .ref l0), (1, .int l1), (2, .int l2)] [] M := by
  unfold F_XSearch_collectNode_23 at h
  refine ew_aload_n 0 d_XSearch_collectNode_23 rfl rfl ?_
  refine ew_iload_n 1 d_XSearch_collectNode_24 rfl rfl ?_
  obtain ⟨kM1, h⟩ := kO_inv h
  obtain ⟨M1, hM1, h⟩ := cV_inv h
  refine ew_callV 8 [.int l1] d_XSearch_collectNode_25 cv_XSearch_127 (T_XSearch_addWord hM1) kM1 (Nat.le_trans (Nat.le_of_ble_eq_true rfl) hn) (Nat.le_trans (Nat.le_of_ble_eq_true rfl) hl) (Nat.le_of_ble_eq_true rfl) rfl rfl ?_
  refine ew_iload_n 2 d_XSearch_collectNode_28 rfl rfl ?_
  refine ew_iconst (3) d_XSearch_collectNode_29 (by decide) ?_
  refine ew_icmp_ne 41 d_XSearch_collectNode_30 (by decide) (fun c2 => ?_) (fun c2 => ?_)
  · rw [if_neg c2] at h
    exact ew_pick (L' := []) [] rfl (E_XSearch_collectNode_41 hn hl h)
  · rw [if_pos c2] at h
    refine ew_aload_n 0 d_XSearch_collectNode_33 rfl rfl ?_
    refine ew_aload_n 0 d_XSearch_collectNode_34 rfl rfl ?_
    obtain ⟨v3, av3, bv3, h⟩ := gI_inv h
    refine ew_gI 8 11 d_XSearch_collectNode_35 fl_XSearch_111 av3 bv3 ?_
    obtain ⟨M4, aM4, eM4, h⟩ := pF_inv h
    refine ew_pF 8 12 d_XSearch_collectNode_38 fl_XSearch_108 aM4 eM4 (fun ad => ⟨rfl, rfl⟩) ?_
    exact ew_pick (L' := []) [] rfl (E_XSearch_collectNode_41 hn hl h)
def F_XSearch_collectNode (n : Nat) (l0 : Nat) (l1 : Int32) (l2 : Int32) (M : PM) : qO :=
  if l2 = (4 : Int32) then
    kO 8 M l0 (
    cV (F_XSearch_addTruth n l0 l1 M) (fun M4 =>
    F_XSearch_collectNode_41 n M4))
  else
    if l2 = (3 : Int32) then
      F_XSearch_collectNode_23 n l0 l1 l2 M
    else
      if l2 = (5 : Int32) then
        F_XSearch_collectNode_23 n l0 l1 l2 M
      else
        F_XSearch_collectNode_41 n M
set_option maxHeartbeats 4000000 in
set_option maxRecDepth 100000 in
theorem E_XSearch_collectNode {g : qG} {X : qX} {Z : qZ} (hn : 1 ≤ zn Z) (hl : 21 ≤ zl Z) {n : Nat} {l0 : Nat} {l1 : Int32} {l2 : Int32} {M : PM} (h : F_XSearch_collectNode n l0 l1 l2 M = some (zr Z, zf Z)) : EW Y_XSearch_collectNode g X Z 0 [(0, .ref l0), (1, .int l1), (2, .int l2)] [] M := by
  unfold F_XSearch_collectNode at h
  refine ew_iload_n 2 d_XSearch_collectNode_0 rfl rfl ?_
  refine ew_iconst (4) d_XSearch_collectNode_1 (by decide) ?_
  refine ew_icmp_ne 13 d_XSearch_collectNode_2 (by decide) (fun c1 => ?_) (fun c1 => ?_)
  · rw [if_neg c1] at h
    refine ew_iload_n 2 d_XSearch_collectNode_13 rfl rfl ?_
    refine ew_iconst (3) d_XSearch_collectNode_14 (by decide) ?_
    refine ew_icmp_eq 23 d_XSearch_collectNode_15 (by decide) (fun c2 => ?_) (fun c2 => ?_)
    · rw [if_pos c2] at h
      exact E_XSearch_collectNode_23 hn hl h
    · rw [if_neg c2] at h
      refine ew_iload_n 2 d_XSearch_collectNode_18 rfl rfl ?_
      refine ew_iconst (5) d_XSearch_collectNode_19 (by decide) ?_
      refine ew_icmp_ne 41 d_XSearch_collectNode_20 (by decide) (fun c3 => ?_) (fun c3 => ?_)
      · rw [if_neg c3] at h
        exact ew_pick (L' := []) [] rfl (E_XSearch_collectNode_41 hn hl h)
      · rw [if_pos c3] at h
        exact E_XSearch_collectNode_23 hn hl h
  · rw [if_pos c1] at h
    refine ew_aload_n 0 d_XSearch_collectNode_5 rfl rfl ?_
    refine ew_iload_n 1 d_XSearch_collectNode_6 rfl rfl ?_
    obtain ⟨kM4, h⟩ := kO_inv h
    obtain ⟨M4, hM4, h⟩ := cV_inv h
    refine ew_callV 8 [.int l1] d_XSearch_collectNode_7 cv_XSearch_124 (T_XSearch_addTruth hM4) kM4 (Nat.le_trans (Nat.le_of_ble_eq_true rfl) hn) (Nat.le_trans (Nat.le_of_ble_eq_true rfl) hl) (Nat.le_of_ble_eq_true rfl) rfl rfl ?_
    refine ew_goto 41 d_XSearch_collectNode_10 (by decide) ?_
    exact ew_pick (L' := []) [] rfl (E_XSearch_collectNode_41 hn hl h)
theorem T_XSearch_collectNode {n : Nat} {l0 : Nat} {l1 : Int32} {l2 : Int32} {M Mf : PM} {res : qRs} (h : F_XSearch_collectNode n l0 l1 l2 M = some (res, Mf)) : CT Y_XSearch_collectNode 1 21 [.ref l0, .int l1, .int l2] M res Mf :=
  CT_of (by decide) (Nat.le_of_ble_eq_true rfl) (qHd_ne (by decide)) (fun g X ad0 => E_XSearch_collectNode (g := g) (X := X) (Z := (ad0, M, res, Mf, 1, 21)) (Nat.le_refl _) (Nat.le_refl _) h)
theorem d_XSearch_collect_0 : decode Y_XSearch_collect.2.1 0 = .ok (.aload_n 0, 1) := by decide +kernel
theorem d_XSearch_collect_1 : decode Y_XSearch_collect.2.1 1 = .ok (.iconst 0, 1) := by decide +kernel
theorem d_XSearch_collect_2 : decode Y_XSearch_collect.2.1 2 = .ok (.putfield 74, 3) := by decide +kernel
theorem d_XSearch_collect_5 : decode Y_XSearch_collect.2.1 5 = .ok (.aload_n 0, 1) := by decide +kernel
theorem d_XSearch_collect_6 : decode Y_XSearch_collect.2.1 6 = .ok (.iconst 0, 1) := by decide +kernel
theorem d_XSearch_collect_7 : decode Y_XSearch_collect.2.1 7 = .ok (.putfield 111, 3) := by decide +kernel
theorem d_XSearch_collect_10 : decode Y_XSearch_collect.2.1 10 = .ok (.aload_n 0, 1) := by decide +kernel
theorem d_XSearch_collect_11 : decode Y_XSearch_collect.2.1 11 = .ok (.iconst 0, 1) := by decide +kernel
theorem d_XSearch_collect_12 : decode Y_XSearch_collect.2.1 12 = .ok (.putfield 108, 3) := by decide +kernel
theorem d_XSearch_collect_15 : decode Y_XSearch_collect.2.1 15 = .ok (.iconst 3, 1) := by decide +kernel
theorem d_XSearch_collect_16 : decode Y_XSearch_collect.2.1 16 = .ok (.istore_n 2, 1) := by decide +kernel
theorem d_XSearch_collect_17 : decode Y_XSearch_collect.2.1 17 = .ok (.iload_n 2, 1) := by decide +kernel
theorem d_XSearch_collect_18 : decode Y_XSearch_collect.2.1 18 = .ok (.aload_n 0, 1) := by decide +kernel
theorem d_XSearch_collect_19 : decode Y_XSearch_collect.2.1 19 = .ok (.getfield 9, 3) := by decide +kernel
theorem d_XSearch_collect_22 : decode Y_XSearch_collect.2.1 22 = .ok (.getfield 114, 3) := by decide +kernel
theorem d_XSearch_collect_25 : decode Y_XSearch_collect.2.1 25 = .ok (.if_icmp .ge (29), 3) := by decide +kernel
theorem d_XSearch_collect_28 : decode Y_XSearch_collect.2.1 28 = .ok (.aload_n 1, 1) := by decide +kernel
theorem d_XSearch_collect_29 : decode Y_XSearch_collect.2.1 29 = .ok (.iload_n 2, 1) := by decide +kernel
theorem d_XSearch_collect_30 : decode Y_XSearch_collect.2.1 30 = .ok (.baload, 1) := by decide +kernel
theorem d_XSearch_collect_31 : decode Y_XSearch_collect.2.1 31 = .ok (.ifCond .eq (17), 3) := by decide +kernel
theorem d_XSearch_collect_34 : decode Y_XSearch_collect.2.1 34 = .ok (.aload_n 0, 1) := by decide +kernel
theorem d_XSearch_collect_35 : decode Y_XSearch_collect.2.1 35 = .ok (.iload_n 2, 1) := by decide +kernel
theorem d_XSearch_collect_36 : decode Y_XSearch_collect.2.1 36 = .ok (.aload_n 0, 1) := by decide +kernel
theorem d_XSearch_collect_37 : decode Y_XSearch_collect.2.1 37 = .ok (.getfield 9, 3) := by decide +kernel
theorem d_XSearch_collect_40 : decode Y_XSearch_collect.2.1 40 = .ok (.getfield 117, 3) := by decide +kernel
theorem d_XSearch_collect_43 : decode Y_XSearch_collect.2.1 43 = .ok (.iload_n 2, 1) := by decide +kernel
theorem d_XSearch_collect_44 : decode Y_XSearch_collect.2.1 44 = .ok (.iaload, 1) := by decide +kernel
theorem d_XSearch_collect_45 : decode Y_XSearch_collect.2.1 45 = .ok (.invokevirtual 120, 3) := by decide +kernel
theorem d_XSearch_collect_48 : decode Y_XSearch_collect.2.1 48 = .ok (.iinc 2 (1), 3) := by decide +kernel
theorem d_XSearch_collect_51 : decode Y_XSearch_collect.2.1 51 = .ok (.goto (-34), 3) := by decide +kernel
theorem d_XSearch_collect_54 : decode Y_XSearch_collect.2.1 54 = .ok (.aload_n 1, 1) := by decide +kernel
theorem d_XSearch_collect_55 : decode Y_XSearch_collect.2.1 55 = .ok (.iconst 2, 1) := by decide +kernel
theorem d_XSearch_collect_56 : decode Y_XSearch_collect.2.1 56 = .ok (.baload, 1) := by decide +kernel
theorem d_XSearch_collect_57 : decode Y_XSearch_collect.2.1 57 = .ok (.ifCond .eq (8), 3) := by decide +kernel
theorem d_XSearch_collect_60 : decode Y_XSearch_collect.2.1 60 = .ok (.aload_n 0, 1) := by decide +kernel
theorem d_XSearch_collect_61 : decode Y_XSearch_collect.2.1 61 = .ok (.iconst 2, 1) := by decide +kernel
theorem d_XSearch_collect_62 : decode Y_XSearch_collect.2.1 62 = .ok (.invokevirtual 124, 3) := by decide +kernel
theorem d_XSearch_collect_65 : decode Y_XSearch_collect.2.1 65 = .ok (.return_, 1) := by decide +kernel
def F_XSearch_collect_48 (n : Nat) (rec17 : Nat → Nat → Int32 → PM → qO) (l0 : Nat) (l1 : Nat) (l2 : Int32) (M : PM) : qO :=
  bI (l2 + (1 : Int32)) (fun v1 =>
  rec17 l0 l1 v1 M)
set_option maxHeartbeats 4000000 in
set_option maxRecDepth 100000 in
theorem E_XSearch_collect_48 {g : qG} {X : qX} {Z : qZ} (hn : 2 ≤ zn Z) (hl : 43 ≤ zl Z) {n : Nat} {rec17 : Nat → Nat → Int32 → PM → qO} (hrec17 : ∀ (l0 : Nat) (l1 : Nat) (l2 : Int32) (M : PM), rec17 l0 l1 l2 M = some (zr Z, zf Z) → EW Y_XSearch_collect g X Z 17 [(0, .ref l0), (1, .ref l1), (2, .int l2)] [] M) {l0 : Nat} {l1 : Nat} {l2 : Int32} {M : PM} (h : F_XSearch_collect_48 n rec17 l0 l1 l2 M = some (zr Z, zf Z)) : EW Y_XSearch_collect g X Z 48 [(0, .ref l0), (1, .ref l1), (2, .int l2)] [] M := by
  unfold F_XSearch_collect_48 at h
  obtain ⟨v1, ev1, h⟩ := bI_inv h
  refine ew_iinc (L' := [(0, .ref l0), (1, .ref l1), (2, .int v1)]) v1 [1, 2, 0] d_XSearch_collect_48 rfl (by rw [ev1]; rfl) (by decide) rfl ?_
  refine ew_goto 17 d_XSearch_collect_51 (by decide) ?_
  exact hrec17 l0 l1 v1 M h
def F_XSearch_collect_65 (n : Nat) (M : PM) : qO :=
  some (.inl none, M)
set_option maxHeartbeats 4000000 in
set_option maxRecDepth 100000 in
theorem E_XSearch_collect_65 {g : qG} {X : qX} {Z : qZ} (hn : 2 ≤ zn Z) (hl : 43 ≤ zl Z) {n : Nat} {M : PM} (h : F_XSearch_collect_65 n M = some (zr Z, zf Z)) : EW Y_XSearch_collect g X Z 65 [] [] M := by
  unfold F_XSearch_collect_65 at h
  obtain ⟨hz, hm⟩ := Prod.mk.inj (Option.some.inj h)
  exact ew_return d_XSearch_collect_65 rfl hz.symm hm.symm
def F_XSearch_collect_17 (n : Nat) : Nat → Nat → Nat → Int32 → PM → qO
  | 0, _, _, _, _ => none
  | f + 1, l0, l1, l2, M =>
    gR 8 M l0 0 (fun v1 =>
    gI 3 M v1 7 (fun v2 =>
    if v2 ≤ l2 then
      lZ M l1 (2 : Int32) (fun v4 =>
      if v4 = (0 : Int32) then
        F_XSearch_collect_65 n M
      else
        kO 8 M l0 (
        cV (F_XSearch_addTruth n l0 (2 : Int32) M) (fun M6 =>
        F_XSearch_collect_65 n M6)))
    else
      lZ M l1 l2 (fun v7 =>
      if v7 = (0 : Int32) then
        F_XSearch_collect_48 n (F_XSearch_collect_17 n f) l0 l1 l2 M
      else
        gR 8 M l0 0 (fun v9 =>
        gR 3 M v9 0 (fun v10 =>
        lI M v10 l2 (fun v11 =>
        kO 8 M l0 (
        cV (F_XSearch_collectNode n l0 l2 v11 M) (fun M12 =>
        F_XSearch_collect_48 n (F_XSearch_collect_17 n f) l0 l1 l2 M12))))))))
set_option maxHeartbeats 4000000 in
set_option maxRecDepth 100000 in
theorem E_XSearch_collect_17 {g : qG} {X : qX} {Z : qZ} (hn : 2 ≤ zn Z) (hl : 43 ≤ zl Z) {n : Nat} : ∀ (f : Nat) (l0 : Nat) (l1 : Nat) (l2 : Int32) (M : PM), F_XSearch_collect_17 n f l0 l1 l2 M = some (zr Z, zf Z) → EW Y_XSearch_collect g X Z 17 [(0, .ref l0), (1, .ref l1), (2, .int l2)] [] M := by
  intro f
  induction f with
  | zero => intro l0 l1 l2 M h; rw [F_XSearch_collect_17] at h; cases h
  | succ f ih =>
    intro l0 l1 l2 M h
    rw [F_XSearch_collect_17] at h
    refine ew_iload_n 2 d_XSearch_collect_17 rfl rfl ?_
    refine ew_aload_n 0 d_XSearch_collect_18 rfl rfl ?_
    obtain ⟨v1, av1, bv1, h⟩ := gR_inv h
    refine ew_gR 8 0 d_XSearch_collect_19 fl_XSearch_9 av1 bv1 ?_
    obtain ⟨v2, av2, bv2, h⟩ := gI_inv h
    refine ew_gI 3 7 d_XSearch_collect_22 fl_XSearch_114 av2 bv2 ?_
    refine ew_icmp_ge 54 d_XSearch_collect_25 (by decide) (fun c3 => ?_) (fun c3 => ?_)
    · rw [if_pos c3] at h
      refine ew_aload_n 1 d_XSearch_collect_54 rfl rfl ?_
      refine ew_iconst (2) d_XSearch_collect_55 (by decide) ?_
      obtain ⟨v4, av4, bv4, cv4, ev4, h⟩ := lZ_inv h
      refine ew_lZ d_XSearch_collect_56 av4 bv4 cv4 ev4 ?_
      refine ew_if_eq 65 d_XSearch_collect_57 (by decide) (fun c5 => ?_) (fun c5 => ?_)
      · rw [if_pos c5] at h
        exact ew_pick (L' := []) [] rfl (E_XSearch_collect_65 hn hl h)
      · rw [if_neg c5] at h
        refine ew_aload_n 0 d_XSearch_collect_60 rfl rfl ?_
        refine ew_iconst (2) d_XSearch_collect_61 (by decide) ?_
        obtain ⟨kM6, h⟩ := kO_inv h
        obtain ⟨M6, hM6, h⟩ := cV_inv h
        refine ew_callV 8 [.int (2 : Int32)] d_XSearch_collect_62 cv_XSearch_124 (T_XSearch_addTruth hM6) kM6 (Nat.le_trans (Nat.le_of_ble_eq_true rfl) hn) (Nat.le_trans (Nat.le_of_ble_eq_true rfl) hl) (Nat.le_of_ble_eq_true rfl) rfl rfl ?_
        exact ew_pick (L' := []) [] rfl (E_XSearch_collect_65 hn hl h)
    · rw [if_neg c3] at h
      refine ew_aload_n 1 d_XSearch_collect_28 rfl rfl ?_
      refine ew_iload_n 2 d_XSearch_collect_29 rfl rfl ?_
      obtain ⟨v7, av7, bv7, cv7, ev7, h⟩ := lZ_inv h
      refine ew_lZ d_XSearch_collect_30 av7 bv7 cv7 ev7 ?_
      refine ew_if_eq 48 d_XSearch_collect_31 (by decide) (fun c8 => ?_) (fun c8 => ?_)
      · rw [if_pos c8] at h
        exact E_XSearch_collect_48 hn hl ih h
      · rw [if_neg c8] at h
        refine ew_aload_n 0 d_XSearch_collect_34 rfl rfl ?_
        refine ew_iload_n 2 d_XSearch_collect_35 rfl rfl ?_
        refine ew_aload_n 0 d_XSearch_collect_36 rfl rfl ?_
        obtain ⟨v9, av9, bv9, h⟩ := gR_inv h
        refine ew_gR 8 0 d_XSearch_collect_37 fl_XSearch_9 av9 bv9 ?_
        obtain ⟨v10, av10, bv10, h⟩ := gR_inv h
        refine ew_gR 3 0 d_XSearch_collect_40 fl_XSearch_117 av10 bv10 ?_
        refine ew_iload_n 2 d_XSearch_collect_43 rfl rfl ?_
        obtain ⟨v11, av11, bv11, cv11, ev11, h⟩ := lI_inv h
        refine ew_lI d_XSearch_collect_44 av11 bv11 cv11 ev11 ?_
        obtain ⟨kM12, h⟩ := kO_inv h
        obtain ⟨M12, hM12, h⟩ := cV_inv h
        refine ew_callV 8 [.int l2, .int v11] d_XSearch_collect_45 cv_XSearch_120 (T_XSearch_collectNode hM12) kM12 (Nat.le_trans (Nat.le_of_ble_eq_true rfl) hn) (Nat.le_trans (Nat.le_of_ble_eq_true rfl) hl) (Nat.le_of_ble_eq_true rfl) rfl rfl ?_
        exact E_XSearch_collect_48 hn hl ih h
def F_XSearch_collect (n : Nat) (l0 : Nat) (l1 : Nat) (M : PM) : qO :=
  pF 8 M l0 10 (.int (0 : Int32)) (fun M1 =>
  pF 8 M1 l0 11 (.int (0 : Int32)) (fun M2 =>
  pF 8 M2 l0 12 (.int (0 : Int32)) (fun M3 =>
  F_XSearch_collect_17 n n l0 l1 (3 : Int32) M3)))
set_option maxHeartbeats 4000000 in
set_option maxRecDepth 100000 in
theorem E_XSearch_collect {g : qG} {X : qX} {Z : qZ} (hn : 2 ≤ zn Z) (hl : 43 ≤ zl Z) {n : Nat} {l0 : Nat} {l1 : Nat} {M : PM} (h : F_XSearch_collect n l0 l1 M = some (zr Z, zf Z)) : EW Y_XSearch_collect g X Z 0 [(0, .ref l0), (1, .ref l1)] [] M := by
  unfold F_XSearch_collect at h
  refine ew_aload_n 0 d_XSearch_collect_0 rfl rfl ?_
  refine ew_iconst (0) d_XSearch_collect_1 (by decide) ?_
  obtain ⟨M1, aM1, eM1, h⟩ := pF_inv h
  refine ew_pF 8 10 d_XSearch_collect_2 fl_XSearch_74 aM1 eM1 (fun ad => ⟨rfl, rfl⟩) ?_
  refine ew_aload_n 0 d_XSearch_collect_5 rfl rfl ?_
  refine ew_iconst (0) d_XSearch_collect_6 (by decide) ?_
  obtain ⟨M2, aM2, eM2, h⟩ := pF_inv h
  refine ew_pF 8 11 d_XSearch_collect_7 fl_XSearch_111 aM2 eM2 (fun ad => ⟨rfl, rfl⟩) ?_
  refine ew_aload_n 0 d_XSearch_collect_10 rfl rfl ?_
  refine ew_iconst (0) d_XSearch_collect_11 (by decide) ?_
  obtain ⟨M3, aM3, eM3, h⟩ := pF_inv h
  refine ew_pF 8 12 d_XSearch_collect_12 fl_XSearch_108 aM3 eM3 (fun ad => ⟨rfl, rfl⟩) ?_
  refine ew_iconst (3) d_XSearch_collect_15 (by decide) ?_
  refine ew_istore_n (L' := [(0, .ref l0), (1, .ref l1), (2, .int (3 : Int32))]) 2 [1, 2, 0] d_XSearch_collect_16 rfl (by decide) rfl ?_
  exact E_XSearch_collect_17 hn hl n l0 l1 (3 : Int32) M3 h
theorem T_XSearch_collect {n : Nat} {l0 : Nat} {l1 : Nat} {M Mf : PM} {res : qRs} (h : F_XSearch_collect n l0 l1 M = some (res, Mf)) : CT Y_XSearch_collect 2 43 [.ref l0, .ref l1] M res Mf :=
  CT_of (by decide) (Nat.le_of_ble_eq_true rfl) (qHd_ne (by decide)) (fun g X ad0 => E_XSearch_collect (g := g) (X := X) (Z := (ad0, M, res, Mf, 2, 43)) (Nat.le_refl _) (Nat.le_refl _) h)
theorem d_XSearch_levelOf_0 : decode Y_XSearch_levelOf.2.1 0 = .ok (.iload_n 1, 1) := by decide +kernel
theorem d_XSearch_levelOf_1 : decode Y_XSearch_levelOf.2.1 1 = .ok (.iconst (-1), 1) := by decide +kernel
theorem d_XSearch_levelOf_2 : decode Y_XSearch_levelOf.2.1 2 = .ok (.if_icmp .ne (7), 3) := by decide +kernel
theorem d_XSearch_levelOf_5 : decode Y_XSearch_levelOf.2.1 5 = .ok (.iconst 0, 1) := by decide +kernel
theorem d_XSearch_levelOf_6 : decode Y_XSearch_levelOf.2.1 6 = .ok (.goto (9), 3) := by decide +kernel
theorem d_XSearch_levelOf_9 : decode Y_XSearch_levelOf.2.1 9 = .ok (.aload_n 0, 1) := by decide +kernel
theorem d_XSearch_levelOf_10 : decode Y_XSearch_levelOf.2.1 10 = .ok (.getfield 38, 3) := by decide +kernel
theorem d_XSearch_levelOf_13 : decode Y_XSearch_levelOf.2.1 13 = .ok (.iload_n 1, 1) := by decide +kernel
theorem d_XSearch_levelOf_14 : decode Y_XSearch_levelOf.2.1 14 = .ok (.iaload, 1) := by decide +kernel
theorem d_XSearch_levelOf_15 : decode Y_XSearch_levelOf.2.1 15 = .ok (.ireturn, 1) := by decide +kernel
def F_XSearch_levelOf_15 (n : Nat) (s0 : Int32) (M : PM) : qO :=
  some (.inl (some (.int s0)), M)
set_option maxHeartbeats 4000000 in
set_option maxRecDepth 100000 in
theorem E_XSearch_levelOf_15 {g : qG} {X : qX} {Z : qZ} (hn : 0 ≤ zn Z) (hl : 0 ≤ zl Z) {n : Nat} {s0 : Int32} {M : PM} (h : F_XSearch_levelOf_15 n s0 M = some (zr Z, zf Z)) : EW Y_XSearch_levelOf g X Z 15 [] [.int s0] M := by
  unfold F_XSearch_levelOf_15 at h
  obtain ⟨hz, hm⟩ := Prod.mk.inj (Option.some.inj h)
  exact ew_ireturn d_XSearch_levelOf_15 rfl hz.symm hm.symm
def F_XSearch_levelOf (n : Nat) (l0 : Nat) (l1 : Int32) (M : PM) : qO :=
  if l1 = (-1 : Int32) then
    F_XSearch_levelOf_15 n (0 : Int32) M
  else
    gR 8 M l0 6 (fun v2 =>
    lI M v2 l1 (fun v3 =>
    F_XSearch_levelOf_15 n v3 M))
set_option maxHeartbeats 4000000 in
set_option maxRecDepth 100000 in
theorem E_XSearch_levelOf {g : qG} {X : qX} {Z : qZ} (hn : 0 ≤ zn Z) (hl : 0 ≤ zl Z) {n : Nat} {l0 : Nat} {l1 : Int32} {M : PM} (h : F_XSearch_levelOf n l0 l1 M = some (zr Z, zf Z)) : EW Y_XSearch_levelOf g X Z 0 [(0, .ref l0), (1, .int l1)] [] M := by
  unfold F_XSearch_levelOf at h
  refine ew_iload_n 1 d_XSearch_levelOf_0 rfl rfl ?_
  refine ew_iconst (-1) d_XSearch_levelOf_1 (by decide) ?_
  refine ew_icmp_ne 9 d_XSearch_levelOf_2 (by decide) (fun c1 => ?_) (fun c1 => ?_)
  · rw [if_neg c1] at h
    refine ew_aload_n 0 d_XSearch_levelOf_9 rfl rfl ?_
    obtain ⟨v2, av2, bv2, h⟩ := gR_inv h
    refine ew_gR 8 6 d_XSearch_levelOf_10 fl_XSearch_38 av2 bv2 ?_
    refine ew_iload_n 1 d_XSearch_levelOf_13 rfl rfl ?_
    obtain ⟨v3, av3, bv3, cv3, ev3, h⟩ := lI_inv h
    refine ew_lI d_XSearch_levelOf_14 av3 bv3 cv3 ev3 ?_
    exact ew_pick (L' := []) [] rfl (E_XSearch_levelOf_15 hn hl h)
  · rw [if_pos c1] at h
    refine ew_iconst (0) d_XSearch_levelOf_5 (by decide) ?_
    refine ew_goto 15 d_XSearch_levelOf_6 (by decide) ?_
    exact ew_pick (L' := []) [] rfl (E_XSearch_levelOf_15 hn hl h)
theorem T_XSearch_levelOf {n : Nat} {l0 : Nat} {l1 : Int32} {M Mf : PM} {res : qRs} (h : F_XSearch_levelOf n l0 l1 M = some (res, Mf)) : CT Y_XSearch_levelOf 0 0 [.ref l0, .int l1] M res Mf :=
  CT_of (by decide) (Nat.le_of_ble_eq_true rfl) (qHd_ne (by decide)) (fun g X ad0 => E_XSearch_levelOf (g := g) (X := X) (Z := (ad0, M, res, Mf, 0, 0)) (Nat.le_refl _) (Nat.le_refl _) h)
theorem d_XSearch_levelOfParts_0 : decode Y_XSearch_levelOfParts.2.1 0 = .ok (.aload_n 0, 1) := by decide +kernel
theorem d_XSearch_levelOfParts_1 : decode Y_XSearch_levelOfParts.2.1 1 = .ok (.aload_n 0, 1) := by decide +kernel
theorem d_XSearch_levelOfParts_2 : decode Y_XSearch_levelOfParts.2.1 2 = .ok (.getfield 9, 3) := by decide +kernel
theorem d_XSearch_levelOfParts_5 : decode Y_XSearch_levelOfParts.2.1 5 = .ok (.getfield 103, 3) := by decide +kernel
theorem d_XSearch_levelOfParts_8 : decode Y_XSearch_levelOfParts.2.1 8 = .ok (.iload_n 1, 1) := by decide +kernel
theorem d_XSearch_levelOfParts_9 : decode Y_XSearch_levelOfParts.2.1 9 = .ok (.iaload, 1) := by decide +kernel
theorem d_XSearch_levelOfParts_10 : decode Y_XSearch_levelOfParts.2.1 10 = .ok (.invokevirtual 134, 3) := by decide +kernel
theorem d_XSearch_levelOfParts_13 : decode Y_XSearch_levelOfParts.2.1 13 = .ok (.istore_n 2, 1) := by decide +kernel
theorem d_XSearch_levelOfParts_14 : decode Y_XSearch_levelOfParts.2.1 14 = .ok (.iload_n 2, 1) := by decide +kernel
theorem d_XSearch_levelOfParts_15 : decode Y_XSearch_levelOfParts.2.1 15 = .ok (.aload_n 0, 1) := by decide +kernel
theorem d_XSearch_levelOfParts_16 : decode Y_XSearch_levelOfParts.2.1 16 = .ok (.aload_n 0, 1) := by decide +kernel
theorem d_XSearch_levelOfParts_17 : decode Y_XSearch_levelOfParts.2.1 17 = .ok (.getfield 9, 3) := by decide +kernel
theorem d_XSearch_levelOfParts_20 : decode Y_XSearch_levelOfParts.2.1 20 = .ok (.getfield 137, 3) := by decide +kernel
theorem d_XSearch_levelOfParts_23 : decode Y_XSearch_levelOfParts.2.1 23 = .ok (.iload_n 1, 1) := by decide +kernel
theorem d_XSearch_levelOfParts_24 : decode Y_XSearch_levelOfParts.2.1 24 = .ok (.iaload, 1) := by decide +kernel
theorem d_XSearch_levelOfParts_25 : decode Y_XSearch_levelOfParts.2.1 25 = .ok (.invokevirtual 134, 3) := by decide +kernel
theorem d_XSearch_levelOfParts_28 : decode Y_XSearch_levelOfParts.2.1 28 = .ok (.invokestatic 140, 3) := by decide +kernel
theorem d_XSearch_levelOfParts_31 : decode Y_XSearch_levelOfParts.2.1 31 = .ok (.istore_n 2, 1) := by decide +kernel
theorem d_XSearch_levelOfParts_32 : decode Y_XSearch_levelOfParts.2.1 32 = .ok (.iload_n 2, 1) := by decide +kernel
theorem d_XSearch_levelOfParts_33 : decode Y_XSearch_levelOfParts.2.1 33 = .ok (.aload_n 0, 1) := by decide +kernel
theorem d_XSearch_levelOfParts_34 : decode Y_XSearch_levelOfParts.2.1 34 = .ok (.aload_n 0, 1) := by decide +kernel
theorem d_XSearch_levelOfParts_35 : decode Y_XSearch_levelOfParts.2.1 35 = .ok (.getfield 9, 3) := by decide +kernel
theorem d_XSearch_levelOfParts_38 : decode Y_XSearch_levelOfParts.2.1 38 = .ok (.getfield 146, 3) := by decide +kernel
theorem d_XSearch_levelOfParts_41 : decode Y_XSearch_levelOfParts.2.1 41 = .ok (.iload_n 1, 1) := by decide +kernel
theorem d_XSearch_levelOfParts_42 : decode Y_XSearch_levelOfParts.2.1 42 = .ok (.iaload, 1) := by decide +kernel
theorem d_XSearch_levelOfParts_43 : decode Y_XSearch_levelOfParts.2.1 43 = .ok (.invokevirtual 134, 3) := by decide +kernel
theorem d_XSearch_levelOfParts_46 : decode Y_XSearch_levelOfParts.2.1 46 = .ok (.invokestatic 140, 3) := by decide +kernel
theorem d_XSearch_levelOfParts_49 : decode Y_XSearch_levelOfParts.2.1 49 = .ok (.ireturn, 1) := by decide +kernel
def F_XSearch_levelOfParts (n : Nat) (l0 : Nat) (l1 : Int32) (M : PM) : qO :=
  gR 8 M l0 0 (fun v1 =>
  gR 3 M v1 1 (fun v2 =>
  lI M v2 l1 (fun v3 =>
  kO 8 M l0 (
  cI (F_XSearch_levelOf n l0 v3 M) (fun v5 M4 =>
  gR 8 M4 l0 0 (fun v6 =>
  gR 3 M4 v6 2 (fun v7 =>
  lI M4 v7 l1 (fun v8 =>
  kO 8 M4 l0 (
  cI (F_XSearch_levelOf n l0 v8 M4) (fun v10 M9 =>
  bI (if v5 < v10 then v10 else v5) (fun v11 =>
  gR 8 M9 l0 0 (fun v12 =>
  gR 3 M9 v12 3 (fun v13 =>
  lI M9 v13 l1 (fun v14 =>
  kO 8 M9 l0 (
  cI (F_XSearch_levelOf n l0 v14 M9) (fun v16 M15 =>
  bI (if v11 < v16 then v16 else v11) (fun v17 =>
  some (.inl (some (.int v17)), M15))))))))))))))))))
set_option maxHeartbeats 4000000 in
set_option maxRecDepth 100000 in
theorem E_XSearch_levelOfParts {g : qG} {X : qX} {Z : qZ} (hn : 1 ≤ zn Z) (hl : 40 ≤ zl Z) {n : Nat} {l0 : Nat} {l1 : Int32} {M : PM} (h : F_XSearch_levelOfParts n l0 l1 M = some (zr Z, zf Z)) : EW Y_XSearch_levelOfParts g X Z 0 [(0, .ref l0), (1, .int l1)] [] M := by
  unfold F_XSearch_levelOfParts at h
  refine ew_aload_n 0 d_XSearch_levelOfParts_0 rfl rfl ?_
  refine ew_aload_n 0 d_XSearch_levelOfParts_1 rfl rfl ?_
  obtain ⟨v1, av1, bv1, h⟩ := gR_inv h
  refine ew_gR 8 0 d_XSearch_levelOfParts_2 fl_XSearch_9 av1 bv1 ?_
  obtain ⟨v2, av2, bv2, h⟩ := gR_inv h
  refine ew_gR 3 1 d_XSearch_levelOfParts_5 fl_XSearch_103 av2 bv2 ?_
  refine ew_iload_n 1 d_XSearch_levelOfParts_8 rfl rfl ?_
  obtain ⟨v3, av3, bv3, cv3, ev3, h⟩ := lI_inv h
  refine ew_lI d_XSearch_levelOfParts_9 av3 bv3 cv3 ev3 ?_
  obtain ⟨kM4, h⟩ := kO_inv h
  obtain ⟨v5, M4, hM4, h⟩ := cI_inv h
  refine ew_callV 8 [.int v3] d_XSearch_levelOfParts_10 cv_XSearch_134 (T_XSearch_levelOf hM4) kM4 (Nat.le_trans (Nat.le_of_ble_eq_true rfl) hn) (Nat.le_trans (Nat.le_of_ble_eq_true rfl) hl) (Nat.le_of_ble_eq_true rfl) rfl rfl ?_
  refine ew_istore_n (L' := [(0, .ref l0), (1, .int l1), (2, .int v5)]) 2 [1, 2, 0] d_XSearch_levelOfParts_13 rfl (by decide) rfl ?_
  refine ew_iload_n 2 d_XSearch_levelOfParts_14 rfl rfl ?_
  refine ew_aload_n 0 d_XSearch_levelOfParts_15 rfl rfl ?_
  refine ew_aload_n 0 d_XSearch_levelOfParts_16 rfl rfl ?_
  obtain ⟨v6, av6, bv6, h⟩ := gR_inv h
  refine ew_gR 8 0 d_XSearch_levelOfParts_17 fl_XSearch_9 av6 bv6 ?_
  obtain ⟨v7, av7, bv7, h⟩ := gR_inv h
  refine ew_gR 3 2 d_XSearch_levelOfParts_20 fl_XSearch_137 av7 bv7 ?_
  refine ew_iload_n 1 d_XSearch_levelOfParts_23 rfl rfl ?_
  obtain ⟨v8, av8, bv8, cv8, ev8, h⟩ := lI_inv h
  refine ew_lI d_XSearch_levelOfParts_24 av8 bv8 cv8 ev8 ?_
  obtain ⟨kM9, h⟩ := kO_inv h
  obtain ⟨v10, M9, hM9, h⟩ := cI_inv h
  refine ew_callV 8 [.int v8] d_XSearch_levelOfParts_25 cv_XSearch_134 (T_XSearch_levelOf hM9) kM9 (Nat.le_trans (Nat.le_of_ble_eq_true rfl) hn) (Nat.le_trans (Nat.le_of_ble_eq_true rfl) hl) (Nat.le_of_ble_eq_true rfl) rfl rfl ?_
  obtain ⟨v11, ev11, h⟩ := bI_inv h
  refine ew_mmax d_XSearch_levelOfParts_28 ma_XSearch_140 ev11 (Nat.le_trans (Nat.le_of_ble_eq_true rfl) hn) (Nat.le_trans (Nat.le_of_ble_eq_true rfl) hl) ?_
  refine ew_istore_n (L' := [(0, .ref l0), (1, .int l1), (2, .int v11)]) 2 [1, 2, 0] d_XSearch_levelOfParts_31 rfl (by decide) rfl ?_
  refine ew_iload_n 2 d_XSearch_levelOfParts_32 rfl rfl ?_
  refine ew_aload_n 0 d_XSearch_levelOfParts_33 rfl rfl ?_
  refine ew_aload_n 0 d_XSearch_levelOfParts_34 rfl rfl ?_
  obtain ⟨v12, av12, bv12, h⟩ := gR_inv h
  refine ew_gR 8 0 d_XSearch_levelOfParts_35 fl_XSearch_9 av12 bv12 ?_
  obtain ⟨v13, av13, bv13, h⟩ := gR_inv h
  refine ew_gR 3 3 d_XSearch_levelOfParts_38 fl_XSearch_146 av13 bv13 ?_
  refine ew_iload_n 1 d_XSearch_levelOfParts_41 rfl rfl ?_
  obtain ⟨v14, av14, bv14, cv14, ev14, h⟩ := lI_inv h
  refine ew_lI d_XSearch_levelOfParts_42 av14 bv14 cv14 ev14 ?_
  obtain ⟨kM15, h⟩ := kO_inv h
  obtain ⟨v16, M15, hM15, h⟩ := cI_inv h
  refine ew_callV 8 [.int v14] d_XSearch_levelOfParts_43 cv_XSearch_134 (T_XSearch_levelOf hM15) kM15 (Nat.le_trans (Nat.le_of_ble_eq_true rfl) hn) (Nat.le_trans (Nat.le_of_ble_eq_true rfl) hl) (Nat.le_of_ble_eq_true rfl) rfl rfl ?_
  obtain ⟨v17, ev17, h⟩ := bI_inv h
  refine ew_mmax d_XSearch_levelOfParts_46 ma_XSearch_140 ev17 (Nat.le_trans (Nat.le_of_ble_eq_true rfl) hn) (Nat.le_trans (Nat.le_of_ble_eq_true rfl) hl) ?_
  obtain ⟨hz, hm⟩ := Prod.mk.inj (Option.some.inj h)
  exact ew_ireturn d_XSearch_levelOfParts_49 rfl hz.symm hm.symm
theorem T_XSearch_levelOfParts {n : Nat} {l0 : Nat} {l1 : Int32} {M Mf : PM} {res : qRs} (h : F_XSearch_levelOfParts n l0 l1 M = some (res, Mf)) : CT Y_XSearch_levelOfParts 1 40 [.ref l0, .int l1] M res Mf :=
  CT_of (by decide) (Nat.le_of_ble_eq_true rfl) (qHd_ne (by decide)) (fun g X ad0 => E_XSearch_levelOfParts (g := g) (X := X) (Z := (ad0, M, res, Mf, 1, 40)) (Nat.le_refl _) (Nat.le_refl _) h)
theorem d_XSearch_setLevels_0 : decode Y_XSearch_setLevels.2.1 0 = .ok (.iconst 0, 1) := by decide +kernel
theorem d_XSearch_setLevels_1 : decode Y_XSearch_setLevels.2.1 1 = .ok (.istore_n 2, 1) := by decide +kernel
theorem d_XSearch_setLevels_2 : decode Y_XSearch_setLevels.2.1 2 = .ok (.iconst 0, 1) := by decide +kernel
theorem d_XSearch_setLevels_3 : decode Y_XSearch_setLevels.2.1 3 = .ok (.istore_n 3, 1) := by decide +kernel
theorem d_XSearch_setLevels_4 : decode Y_XSearch_setLevels.2.1 4 = .ok (.iload_n 3, 1) := by decide +kernel
theorem d_XSearch_setLevels_5 : decode Y_XSearch_setLevels.2.1 5 = .ok (.aload_n 0, 1) := by decide +kernel
theorem d_XSearch_setLevels_6 : decode Y_XSearch_setLevels.2.1 6 = .ok (.getfield 9, 3) := by decide +kernel
theorem d_XSearch_setLevels_9 : decode Y_XSearch_setLevels.2.1 9 = .ok (.getfield 114, 3) := by decide +kernel
theorem d_XSearch_setLevels_12 : decode Y_XSearch_setLevels.2.1 12 = .ok (.if_icmp .ge (72), 3) := by decide +kernel
theorem d_XSearch_setLevels_15 : decode Y_XSearch_setLevels.2.1 15 = .ok (.aload_n 1, 1) := by decide +kernel
theorem d_XSearch_setLevels_16 : decode Y_XSearch_setLevels.2.1 16 = .ok (.iload_n 3, 1) := by decide +kernel
theorem d_XSearch_setLevels_17 : decode Y_XSearch_setLevels.2.1 17 = .ok (.baload, 1) := by decide +kernel
theorem d_XSearch_setLevels_18 : decode Y_XSearch_setLevels.2.1 18 = .ok (.ifCond .eq (60), 3) := by decide +kernel
theorem d_XSearch_setLevels_21 : decode Y_XSearch_setLevels.2.1 21 = .ok (.aload_n 0, 1) := by decide +kernel
theorem d_XSearch_setLevels_22 : decode Y_XSearch_setLevels.2.1 22 = .ok (.getfield 9, 3) := by decide +kernel
theorem d_XSearch_setLevels_25 : decode Y_XSearch_setLevels.2.1 25 = .ok (.getfield 117, 3) := by decide +kernel
theorem d_XSearch_setLevels_28 : decode Y_XSearch_setLevels.2.1 28 = .ok (.iload_n 3, 1) := by decide +kernel
theorem d_XSearch_setLevels_29 : decode Y_XSearch_setLevels.2.1 29 = .ok (.iaload, 1) := by decide +kernel
theorem d_XSearch_setLevels_30 : decode Y_XSearch_setLevels.2.1 30 = .ok (.istore 4, 2) := by decide +kernel
theorem d_XSearch_setLevels_32 : decode Y_XSearch_setLevels.2.1 32 = .ok (.iload 4, 2) := by decide +kernel
theorem d_XSearch_setLevels_34 : decode Y_XSearch_setLevels.2.1 34 = .ok (.iconst 3, 1) := by decide +kernel
theorem d_XSearch_setLevels_35 : decode Y_XSearch_setLevels.2.1 35 = .ok (.if_icmp .eq (9), 3) := by decide +kernel
theorem d_XSearch_setLevels_38 : decode Y_XSearch_setLevels.2.1 38 = .ok (.iload 4, 2) := by decide +kernel
theorem d_XSearch_setLevels_40 : decode Y_XSearch_setLevels.2.1 40 = .ok (.iconst 5, 1) := by decide +kernel
theorem d_XSearch_setLevels_41 : decode Y_XSearch_setLevels.2.1 41 = .ok (.if_icmp .ne (16), 3) := by decide +kernel
theorem d_XSearch_setLevels_44 : decode Y_XSearch_setLevels.2.1 44 = .ok (.iinc 2 (1), 3) := by decide +kernel
theorem d_XSearch_setLevels_47 : decode Y_XSearch_setLevels.2.1 47 = .ok (.aload_n 0, 1) := by decide +kernel
theorem d_XSearch_setLevels_48 : decode Y_XSearch_setLevels.2.1 48 = .ok (.getfield 38, 3) := by decide +kernel
theorem d_XSearch_setLevels_51 : decode Y_XSearch_setLevels.2.1 51 = .ok (.iload_n 3, 1) := by decide +kernel
theorem d_XSearch_setLevels_52 : decode Y_XSearch_setLevels.2.1 52 = .ok (.iload_n 2, 1) := by decide +kernel
theorem d_XSearch_setLevels_53 : decode Y_XSearch_setLevels.2.1 53 = .ok (.iastore, 1) := by decide +kernel
theorem d_XSearch_setLevels_54 : decode Y_XSearch_setLevels.2.1 54 = .ok (.goto (24), 3) := by decide +kernel
theorem d_XSearch_setLevels_57 : decode Y_XSearch_setLevels.2.1 57 = .ok (.aload_n 0, 1) := by decide +kernel
theorem d_XSearch_setLevels_58 : decode Y_XSearch_setLevels.2.1 58 = .ok (.getfield 38, 3) := by decide +kernel
theorem d_XSearch_setLevels_61 : decode Y_XSearch_setLevels.2.1 61 = .ok (.iload_n 3, 1) := by decide +kernel
theorem d_XSearch_setLevels_62 : decode Y_XSearch_setLevels.2.1 62 = .ok (.iload 4, 2) := by decide +kernel
theorem d_XSearch_setLevels_64 : decode Y_XSearch_setLevels.2.1 64 = .ok (.iconst 5, 1) := by decide +kernel
theorem d_XSearch_setLevels_65 : decode Y_XSearch_setLevels.2.1 65 = .ok (.if_icmp .ge (7), 3) := by decide +kernel
theorem d_XSearch_setLevels_68 : decode Y_XSearch_setLevels.2.1 68 = .ok (.iconst 0, 1) := by decide +kernel
theorem d_XSearch_setLevels_69 : decode Y_XSearch_setLevels.2.1 69 = .ok (.goto (8), 3) := by decide +kernel
theorem d_XSearch_setLevels_72 : decode Y_XSearch_setLevels.2.1 72 = .ok (.aload_n 0, 1) := by decide +kernel
theorem d_XSearch_setLevels_73 : decode Y_XSearch_setLevels.2.1 73 = .ok (.iload_n 3, 1) := by decide +kernel
theorem d_XSearch_setLevels_74 : decode Y_XSearch_setLevels.2.1 74 = .ok (.invokevirtual 130, 3) := by decide +kernel
theorem d_XSearch_setLevels_77 : decode Y_XSearch_setLevels.2.1 77 = .ok (.iastore, 1) := by decide +kernel
theorem d_XSearch_setLevels_78 : decode Y_XSearch_setLevels.2.1 78 = .ok (.iinc 3 (1), 3) := by decide +kernel
theorem d_XSearch_setLevels_81 : decode Y_XSearch_setLevels.2.1 81 = .ok (.goto (-77), 3) := by decide +kernel
theorem d_XSearch_setLevels_84 : decode Y_XSearch_setLevels.2.1 84 = .ok (.return_, 1) := by decide +kernel
def F_XSearch_setLevels_78 (n : Nat) (rec4 : Nat → Nat → Int32 → Int32 → PM → qO) (l0 : Nat) (l1 : Nat) (l2 : Int32) (l3 : Int32) (M : PM) : qO :=
  bI (l3 + (1 : Int32)) (fun v1 =>
  rec4 l0 l1 l2 v1 M)
set_option maxHeartbeats 4000000 in
set_option maxRecDepth 100000 in
theorem E_XSearch_setLevels_78 {g : qG} {X : qX} {Z : qZ} (hn : 2 ≤ zn Z) (hl : 62 ≤ zl Z) {n : Nat} {rec4 : Nat → Nat → Int32 → Int32 → PM → qO} (hrec4 : ∀ (l0 : Nat) (l1 : Nat) (l2 : Int32) (l3 : Int32) (M : PM), rec4 l0 l1 l2 l3 M = some (zr Z, zf Z) → EW Y_XSearch_setLevels g X Z 4 [(0, .ref l0), (1, .ref l1), (2, .int l2), (3, .int l3)] [] M) {l0 : Nat} {l1 : Nat} {l2 : Int32} {l3 : Int32} {M : PM} (h : F_XSearch_setLevels_78 n rec4 l0 l1 l2 l3 M = some (zr Z, zf Z)) : EW Y_XSearch_setLevels g X Z 78 [(0, .ref l0), (1, .ref l1), (2, .int l2), (3, .int l3)] [] M := by
  unfold F_XSearch_setLevels_78 at h
  obtain ⟨v1, ev1, h⟩ := bI_inv h
  refine ew_iinc (L' := [(0, .ref l0), (1, .ref l1), (2, .int l2), (3, .int v1)]) v1 [1, 2, 3, 0] d_XSearch_setLevels_78 rfl (by rw [ev1]; rfl) (by decide) rfl ?_
  refine ew_goto 4 d_XSearch_setLevels_81 (by decide) ?_
  exact hrec4 l0 l1 l2 v1 M h
def F_XSearch_setLevels_44 (n : Nat) (rec4 : Nat → Nat → Int32 → Int32 → PM → qO) (l0 : Nat) (l1 : Nat) (l2 : Int32) (l3 : Int32) (M : PM) : qO :=
  bI (l2 + (1 : Int32)) (fun v1 =>
  gR 8 M l0 6 (fun v2 =>
  wI M v2 l3 v1 (fun M3 =>
  F_XSearch_setLevels_78 n rec4 l0 l1 v1 l3 M3)))
set_option maxHeartbeats 4000000 in
set_option maxRecDepth 100000 in
theorem E_XSearch_setLevels_44 {g : qG} {X : qX} {Z : qZ} (hn : 2 ≤ zn Z) (hl : 62 ≤ zl Z) {n : Nat} {rec4 : Nat → Nat → Int32 → Int32 → PM → qO} (hrec4 : ∀ (l0 : Nat) (l1 : Nat) (l2 : Int32) (l3 : Int32) (M : PM), rec4 l0 l1 l2 l3 M = some (zr Z, zf Z) → EW Y_XSearch_setLevels g X Z 4 [(0, .ref l0), (1, .ref l1), (2, .int l2), (3, .int l3)] [] M) {l0 : Nat} {l1 : Nat} {l2 : Int32} {l3 : Int32} {M : PM} (h : F_XSearch_setLevels_44 n rec4 l0 l1 l2 l3 M = some (zr Z, zf Z)) : EW Y_XSearch_setLevels g X Z 44 [(0, .ref l0), (1, .ref l1), (2, .int l2), (3, .int l3)] [] M := by
  unfold F_XSearch_setLevels_44 at h
  obtain ⟨v1, ev1, h⟩ := bI_inv h
  refine ew_iinc (L' := [(0, .ref l0), (1, .ref l1), (2, .int v1), (3, .int l3)]) v1 [1, 2, 0, 3] d_XSearch_setLevels_44 rfl (by rw [ev1]; rfl) (by decide) rfl ?_
  refine ew_aload_n 0 d_XSearch_setLevels_47 rfl rfl ?_
  obtain ⟨v2, av2, bv2, h⟩ := gR_inv h
  refine ew_gR 8 6 d_XSearch_setLevels_48 fl_XSearch_38 av2 bv2 ?_
  refine ew_iload_n 3 d_XSearch_setLevels_51 rfl rfl ?_
  refine ew_iload_n 2 d_XSearch_setLevels_52 rfl rfl ?_
  obtain ⟨M3, aM3, bM3, cM3, eM3, h⟩ := wI_inv h
  refine ew_wI d_XSearch_setLevels_53 aM3 bM3 cM3 eM3 ?_
  refine ew_goto 78 d_XSearch_setLevels_54 (by decide) ?_
  exact E_XSearch_setLevels_78 hn hl hrec4 h
def F_XSearch_setLevels_77 (n : Nat) (rec4 : Nat → Nat → Int32 → Int32 → PM → qO) (l0 : Nat) (l1 : Nat) (l2 : Int32) (l3 : Int32) (s0 : Nat) (s1 : Int32) (s2 : Int32) (M : PM) : qO :=
  wI M s0 s1 s2 (fun M1 =>
  F_XSearch_setLevels_78 n rec4 l0 l1 l2 l3 M1)
set_option maxHeartbeats 4000000 in
set_option maxRecDepth 100000 in
theorem E_XSearch_setLevels_77 {g : qG} {X : qX} {Z : qZ} (hn : 2 ≤ zn Z) (hl : 62 ≤ zl Z) {n : Nat} {rec4 : Nat → Nat → Int32 → Int32 → PM → qO} (hrec4 : ∀ (l0 : Nat) (l1 : Nat) (l2 : Int32) (l3 : Int32) (M : PM), rec4 l0 l1 l2 l3 M = some (zr Z, zf Z) → EW Y_XSearch_setLevels g X Z 4 [(0, .ref l0), (1, .ref l1), (2, .int l2), (3, .int l3)] [] M) {l0 : Nat} {l1 : Nat} {l2 : Int32} {l3 : Int32} {s0 : Nat} {s1 : Int32} {s2 : Int32} {M : PM} (h : F_XSearch_setLevels_77 n rec4 l0 l1 l2 l3 s0 s1 s2 M = some (zr Z, zf Z)) : EW Y_XSearch_setLevels g X Z 77 [(0, .ref l0), (1, .ref l1), (2, .int l2), (3, .int l3)] [.int s2, .int s1, .ref s0] M := by
  unfold F_XSearch_setLevels_77 at h
  obtain ⟨M1, aM1, bM1, cM1, eM1, h⟩ := wI_inv h
  refine ew_wI d_XSearch_setLevels_77 aM1 bM1 cM1 eM1 ?_
  exact E_XSearch_setLevels_78 hn hl hrec4 h
def F_XSearch_setLevels_4 (n : Nat) : Nat → Nat → Nat → Int32 → Int32 → PM → qO
  | 0, _, _, _, _, _ => none
  | f + 1, l0, l1, l2, l3, M =>
    gR 8 M l0 0 (fun v1 =>
    gI 3 M v1 7 (fun v2 =>
    if v2 ≤ l3 then
      some (.inl none, M)
    else
      lZ M l1 l3 (fun v4 =>
      if v4 = (0 : Int32) then
        F_XSearch_setLevels_78 n (F_XSearch_setLevels_4 n f) l0 l1 l2 l3 M
      else
        gR 8 M l0 0 (fun v6 =>
        gR 3 M v6 0 (fun v7 =>
        lI M v7 l3 (fun v8 =>
        if v8 = (3 : Int32) then
          F_XSearch_setLevels_44 n (F_XSearch_setLevels_4 n f) l0 l1 l2 l3 M
        else
          if v8 = (5 : Int32) then
            F_XSearch_setLevels_44 n (F_XSearch_setLevels_4 n f) l0 l1 l2 l3 M
          else
            gR 8 M l0 6 (fun v11 =>
            if (5 : Int32) ≤ v8 then
              kO 8 M l0 (
              cI (F_XSearch_levelOfParts n l0 l3 M) (fun v14 M13 =>
              F_XSearch_setLevels_77 n (F_XSearch_setLevels_4 n f) l0 l1 l2 l3 v11 l3 v14 M13))
            else
              F_XSearch_setLevels_77 n (F_XSearch_setLevels_4 n f) l0 l1 l2 l3 v11 l3 (0 : Int32) M)))))))
set_option maxHeartbeats 4000000 in
set_option maxRecDepth 100000 in
theorem E_XSearch_setLevels_4 {g : qG} {X : qX} {Z : qZ} (hn : 2 ≤ zn Z) (hl : 62 ≤ zl Z) {n : Nat} : ∀ (f : Nat) (l0 : Nat) (l1 : Nat) (l2 : Int32) (l3 : Int32) (M : PM), F_XSearch_setLevels_4 n f l0 l1 l2 l3 M = some (zr Z, zf Z) → EW Y_XSearch_setLevels g X Z 4 [(0, .ref l0), (1, .ref l1), (2, .int l2), (3, .int l3)] [] M := by
  intro f
  induction f with
  | zero => intro l0 l1 l2 l3 M h; rw [F_XSearch_setLevels_4] at h; cases h
  | succ f ih =>
    intro l0 l1 l2 l3 M h
    rw [F_XSearch_setLevels_4] at h
    refine ew_iload_n 3 d_XSearch_setLevels_4 rfl rfl ?_
    refine ew_aload_n 0 d_XSearch_setLevels_5 rfl rfl ?_
    obtain ⟨v1, av1, bv1, h⟩ := gR_inv h
    refine ew_gR 8 0 d_XSearch_setLevels_6 fl_XSearch_9 av1 bv1 ?_
    obtain ⟨v2, av2, bv2, h⟩ := gI_inv h
    refine ew_gI 3 7 d_XSearch_setLevels_9 fl_XSearch_114 av2 bv2 ?_
    refine ew_icmp_ge 84 d_XSearch_setLevels_12 (by decide) (fun c3 => ?_) (fun c3 => ?_)
    · rw [if_pos c3] at h
      obtain ⟨hz, hm⟩ := Prod.mk.inj (Option.some.inj h)
      exact ew_return d_XSearch_setLevels_84 rfl hz.symm hm.symm
    · rw [if_neg c3] at h
      refine ew_aload_n 1 d_XSearch_setLevels_15 rfl rfl ?_
      refine ew_iload_n 3 d_XSearch_setLevels_16 rfl rfl ?_
      obtain ⟨v4, av4, bv4, cv4, ev4, h⟩ := lZ_inv h
      refine ew_lZ d_XSearch_setLevels_17 av4 bv4 cv4 ev4 ?_
      refine ew_if_eq 78 d_XSearch_setLevels_18 (by decide) (fun c5 => ?_) (fun c5 => ?_)
      · rw [if_pos c5] at h
        exact E_XSearch_setLevels_78 hn hl ih h
      · rw [if_neg c5] at h
        refine ew_aload_n 0 d_XSearch_setLevels_21 rfl rfl ?_
        obtain ⟨v6, av6, bv6, h⟩ := gR_inv h
        refine ew_gR 8 0 d_XSearch_setLevels_22 fl_XSearch_9 av6 bv6 ?_
        obtain ⟨v7, av7, bv7, h⟩ := gR_inv h
        refine ew_gR 3 0 d_XSearch_setLevels_25 fl_XSearch_117 av7 bv7 ?_
        refine ew_iload_n 3 d_XSearch_setLevels_28 rfl rfl ?_
        obtain ⟨v8, av8, bv8, cv8, ev8, h⟩ := lI_inv h
        refine ew_lI d_XSearch_setLevels_29 av8 bv8 cv8 ev8 ?_
        refine ew_istore (L' := [(0, .ref l0), (1, .ref l1), (2, .int l2), (3, .int l3), (4, .int v8)]) [1, 2, 3, 4, 0] d_XSearch_setLevels_30 (by decide) rfl ?_
        refine ew_iload d_XSearch_setLevels_32 rfl ?_
        refine ew_iconst (3) d_XSearch_setLevels_34 (by decide) ?_
        refine ew_icmp_eq 44 d_XSearch_setLevels_35 (by decide) (fun c9 => ?_) (fun c9 => ?_)
        · rw [if_pos c9] at h
          exact ew_pick (L' := [(0, .ref l0), (1, .ref l1), (2, .int l2), (3, .int l3)]) [0, 1, 2, 3] rfl (E_XSearch_setLevels_44 hn hl ih h)
        · rw [if_neg c9] at h
          refine ew_iload d_XSearch_setLevels_38 rfl ?_
          refine ew_iconst (5) d_XSearch_setLevels_40 (by decide) ?_
          refine ew_icmp_ne 57 d_XSearch_setLevels_41 (by decide) (fun c10 => ?_) (fun c10 => ?_)
          · rw [if_neg c10] at h
            refine ew_aload_n 0 d_XSearch_setLevels_57 rfl rfl ?_
            obtain ⟨v11, av11, bv11, h⟩ := gR_inv h
            refine ew_gR 8 6 d_XSearch_setLevels_58 fl_XSearch_38 av11 bv11 ?_
            refine ew_iload_n 3 d_XSearch_setLevels_61 rfl rfl ?_
            refine ew_iload d_XSearch_setLevels_62 rfl ?_
            refine ew_iconst (5) d_XSearch_setLevels_64 (by decide) ?_
            refine ew_icmp_ge 72 d_XSearch_setLevels_65 (by decide) (fun c12 => ?_) (fun c12 => ?_)
            · rw [if_pos c12] at h
              refine ew_aload_n 0 d_XSearch_setLevels_72 rfl rfl ?_
              refine ew_iload_n 3 d_XSearch_setLevels_73 rfl rfl ?_
              obtain ⟨kM13, h⟩ := kO_inv h
              obtain ⟨v14, M13, hM13, h⟩ := cI_inv h
              refine ew_callV 8 [.int l3] d_XSearch_setLevels_74 cv_XSearch_130 (T_XSearch_levelOfParts hM13) kM13 (Nat.le_trans (Nat.le_of_ble_eq_true rfl) hn) (Nat.le_trans (Nat.le_of_ble_eq_true rfl) hl) (Nat.le_of_ble_eq_true rfl) rfl rfl ?_
              exact ew_pick (L' := [(0, .ref l0), (1, .ref l1), (2, .int l2), (3, .int l3)]) [0, 1, 2, 3] rfl (E_XSearch_setLevels_77 hn hl ih h)
            · rw [if_neg c12] at h
              refine ew_iconst (0) d_XSearch_setLevels_68 (by decide) ?_
              refine ew_goto 77 d_XSearch_setLevels_69 (by decide) ?_
              exact ew_pick (L' := [(0, .ref l0), (1, .ref l1), (2, .int l2), (3, .int l3)]) [0, 1, 2, 3] rfl (E_XSearch_setLevels_77 hn hl ih h)
          · rw [if_pos c10] at h
            exact ew_pick (L' := [(0, .ref l0), (1, .ref l1), (2, .int l2), (3, .int l3)]) [0, 1, 2, 3] rfl (E_XSearch_setLevels_44 hn hl ih h)
def F_XSearch_setLevels (n : Nat) (l0 : Nat) (l1 : Nat) (M : PM) : qO :=
  F_XSearch_setLevels_4 n n l0 l1 (0 : Int32) (0 : Int32) M
set_option maxHeartbeats 4000000 in
set_option maxRecDepth 100000 in
theorem E_XSearch_setLevels {g : qG} {X : qX} {Z : qZ} (hn : 2 ≤ zn Z) (hl : 62 ≤ zl Z) {n : Nat} {l0 : Nat} {l1 : Nat} {M : PM} (h : F_XSearch_setLevels n l0 l1 M = some (zr Z, zf Z)) : EW Y_XSearch_setLevels g X Z 0 [(0, .ref l0), (1, .ref l1)] [] M := by
  unfold F_XSearch_setLevels at h
  refine ew_iconst (0) d_XSearch_setLevels_0 (by decide) ?_
  refine ew_istore_n (L' := [(0, .ref l0), (1, .ref l1), (2, .int (0 : Int32))]) 2 [1, 2, 0] d_XSearch_setLevels_1 rfl (by decide) rfl ?_
  refine ew_iconst (0) d_XSearch_setLevels_2 (by decide) ?_
  refine ew_istore_n (L' := [(0, .ref l0), (1, .ref l1), (2, .int (0 : Int32)), (3, .int (0 : Int32))]) 3 [1, 2, 3, 0] d_XSearch_setLevels_3 rfl (by decide) rfl ?_
  exact E_XSearch_setLevels_4 hn hl n l0 l1 (0 : Int32) (0 : Int32) M h
theorem T_XSearch_setLevels {n : Nat} {l0 : Nat} {l1 : Nat} {M Mf : PM} {res : qRs} (h : F_XSearch_setLevels n l0 l1 M = some (res, Mf)) : CT Y_XSearch_setLevels 2 62 [.ref l0, .ref l1] M res Mf :=
  CT_of (by decide) (Nat.le_of_ble_eq_true rfl) (qHd_ne (by decide)) (fun g X ad0 => E_XSearch_setLevels (g := g) (X := X) (Z := (ad0, M, res, Mf, 2, 62)) (Nat.le_refl _) (Nat.le_refl _) h)
theorem d_XSearch_arrange_0 : decode Y_XSearch_arrange.2.1 0 = .ok (.aload_n 0, 1) := by decide +kernel
theorem d_XSearch_arrange_1 : decode Y_XSearch_arrange.2.1 1 = .ok (.getfield 44, 3) := by decide +kernel
theorem d_XSearch_arrange_4 : decode Y_XSearch_arrange.2.1 4 = .ok (.iconst 0, 1) := by decide +kernel
theorem d_XSearch_arrange_5 : decode Y_XSearch_arrange.2.1 5 = .ok (.invokestatic 149, 3) := by decide +kernel
theorem d_XSearch_arrange_8 : decode Y_XSearch_arrange.2.1 8 = .ok (.iconst 0, 1) := by decide +kernel
theorem d_XSearch_arrange_9 : decode Y_XSearch_arrange.2.1 9 = .ok (.istore_n 2, 1) := by decide +kernel
theorem d_XSearch_arrange_10 : decode Y_XSearch_arrange.2.1 10 = .ok (.iload_n 2, 1) := by decide +kernel
theorem d_XSearch_arrange_11 : decode Y_XSearch_arrange.2.1 11 = .ok (.aload_n 0, 1) := by decide +kernel
theorem d_XSearch_arrange_12 : decode Y_XSearch_arrange.2.1 12 = .ok (.getfield 9, 3) := by decide +kernel
theorem d_XSearch_arrange_15 : decode Y_XSearch_arrange.2.1 15 = .ok (.getfield 114, 3) := by decide +kernel
theorem d_XSearch_arrange_18 : decode Y_XSearch_arrange.2.1 18 = .ok (.if_icmp .ge (43), 3) := by decide +kernel
theorem d_XSearch_arrange_21 : decode Y_XSearch_arrange.2.1 21 = .ok (.aload_n 1, 1) := by decide +kernel
theorem d_XSearch_arrange_22 : decode Y_XSearch_arrange.2.1 22 = .ok (.iload_n 2, 1) := by decide +kernel
theorem d_XSearch_arrange_23 : decode Y_XSearch_arrange.2.1 23 = .ok (.baload, 1) := by decide +kernel
theorem d_XSearch_arrange_24 : decode Y_XSearch_arrange.2.1 24 = .ok (.ifCond .eq (31), 3) := by decide +kernel
theorem d_XSearch_arrange_27 : decode Y_XSearch_arrange.2.1 27 = .ok (.aload_n 0, 1) := by decide +kernel
theorem d_XSearch_arrange_28 : decode Y_XSearch_arrange.2.1 28 = .ok (.getfield 9, 3) := by decide +kernel
theorem d_XSearch_arrange_31 : decode Y_XSearch_arrange.2.1 31 = .ok (.getfield 117, 3) := by decide +kernel
theorem d_XSearch_arrange_34 : decode Y_XSearch_arrange.2.1 34 = .ok (.iload_n 2, 1) := by decide +kernel
theorem d_XSearch_arrange_35 : decode Y_XSearch_arrange.2.1 35 = .ok (.iaload, 1) := by decide +kernel
theorem d_XSearch_arrange_36 : decode Y_XSearch_arrange.2.1 36 = .ok (.iconst 5, 1) := by decide +kernel
theorem d_XSearch_arrange_37 : decode Y_XSearch_arrange.2.1 37 = .ok (.if_icmp .le (18), 3) := by decide +kernel
theorem d_XSearch_arrange_40 : decode Y_XSearch_arrange.2.1 40 = .ok (.aload_n 0, 1) := by decide +kernel
theorem d_XSearch_arrange_41 : decode Y_XSearch_arrange.2.1 41 = .ok (.getfield 44, 3) := by decide +kernel
theorem d_XSearch_arrange_44 : decode Y_XSearch_arrange.2.1 44 = .ok (.aload_n 0, 1) := by decide +kernel
theorem d_XSearch_arrange_45 : decode Y_XSearch_arrange.2.1 45 = .ok (.getfield 38, 3) := by decide +kernel
theorem d_XSearch_arrange_48 : decode Y_XSearch_arrange.2.1 48 = .ok (.iload_n 2, 1) := by decide +kernel
theorem d_XSearch_arrange_49 : decode Y_XSearch_arrange.2.1 49 = .ok (.iaload, 1) := by decide +kernel
theorem d_XSearch_arrange_50 : decode Y_XSearch_arrange.2.1 50 = .ok (.dup2, 1) := by decide +kernel
theorem d_XSearch_arrange_51 : decode Y_XSearch_arrange.2.1 51 = .ok (.iaload, 1) := by decide +kernel
theorem d_XSearch_arrange_52 : decode Y_XSearch_arrange.2.1 52 = .ok (.iconst 1, 1) := by decide +kernel
theorem d_XSearch_arrange_53 : decode Y_XSearch_arrange.2.1 53 = .ok (.iadd, 1) := by decide +kernel
theorem d_XSearch_arrange_54 : decode Y_XSearch_arrange.2.1 54 = .ok (.iastore, 1) := by decide +kernel
theorem d_XSearch_arrange_55 : decode Y_XSearch_arrange.2.1 55 = .ok (.iinc 2 (1), 3) := by decide +kernel
theorem d_XSearch_arrange_58 : decode Y_XSearch_arrange.2.1 58 = .ok (.goto (-48), 3) := by decide +kernel
theorem d_XSearch_arrange_61 : decode Y_XSearch_arrange.2.1 61 = .ok (.iconst 1, 1) := by decide +kernel
theorem d_XSearch_arrange_62 : decode Y_XSearch_arrange.2.1 62 = .ok (.istore_n 2, 1) := by decide +kernel
theorem d_XSearch_arrange_63 : decode Y_XSearch_arrange.2.1 63 = .ok (.iload_n 2, 1) := by decide +kernel
theorem d_XSearch_arrange_64 : decode Y_XSearch_arrange.2.1 64 = .ok (.aload_n 0, 1) := by decide +kernel
theorem d_XSearch_arrange_65 : decode Y_XSearch_arrange.2.1 65 = .ok (.getfield 44, 3) := by decide +kernel
theorem d_XSearch_arrange_68 : decode Y_XSearch_arrange.2.1 68 = .ok (.arraylength, 1) := by decide +kernel
theorem d_XSearch_arrange_69 : decode Y_XSearch_arrange.2.1 69 = .ok (.if_icmp .ge (26), 3) := by decide +kernel
theorem d_XSearch_arrange_72 : decode Y_XSearch_arrange.2.1 72 = .ok (.aload_n 0, 1) := by decide +kernel
theorem d_XSearch_arrange_73 : decode Y_XSearch_arrange.2.1 73 = .ok (.getfield 44, 3) := by decide +kernel
theorem d_XSearch_arrange_76 : decode Y_XSearch_arrange.2.1 76 = .ok (.iload_n 2, 1) := by decide +kernel
theorem d_XSearch_arrange_77 : decode Y_XSearch_arrange.2.1 77 = .ok (.dup2, 1) := by decide +kernel
theorem d_XSearch_arrange_78 : decode Y_XSearch_arrange.2.1 78 = .ok (.iaload, 1) := by decide +kernel
theorem d_XSearch_arrange_79 : decode Y_XSearch_arrange.2.1 79 = .ok (.aload_n 0, 1) := by decide +kernel
theorem d_XSearch_arrange_80 : decode Y_XSearch_arrange.2.1 80 = .ok (.getfield 44, 3) := by decide +kernel
theorem d_XSearch_arrange_83 : decode Y_XSearch_arrange.2.1 83 = .ok (.iload_n 2, 1) := by decide +kernel
theorem d_XSearch_arrange_84 : decode Y_XSearch_arrange.2.1 84 = .ok (.iconst 1, 1) := by decide +kernel
theorem d_XSearch_arrange_85 : decode Y_XSearch_arrange.2.1 85 = .ok (.isub, 1) := by decide +kernel
theorem d_XSearch_arrange_86 : decode Y_XSearch_arrange.2.1 86 = .ok (.iaload, 1) := by decide +kernel
theorem d_XSearch_arrange_87 : decode Y_XSearch_arrange.2.1 87 = .ok (.iadd, 1) := by decide +kernel
theorem d_XSearch_arrange_88 : decode Y_XSearch_arrange.2.1 88 = .ok (.iastore, 1) := by decide +kernel
theorem d_XSearch_arrange_89 : decode Y_XSearch_arrange.2.1 89 = .ok (.iinc 2 (1), 3) := by decide +kernel
theorem d_XSearch_arrange_92 : decode Y_XSearch_arrange.2.1 92 = .ok (.goto (-29), 3) := by decide +kernel
theorem d_XSearch_arrange_95 : decode Y_XSearch_arrange.2.1 95 = .ok (.aload_n 0, 1) := by decide +kernel
theorem d_XSearch_arrange_96 : decode Y_XSearch_arrange.2.1 96 = .ok (.getfield 9, 3) := by decide +kernel
theorem d_XSearch_arrange_99 : decode Y_XSearch_arrange.2.1 99 = .ok (.getfield 114, 3) := by decide +kernel
theorem d_XSearch_arrange_102 : decode Y_XSearch_arrange.2.1 102 = .ok (.iconst 1, 1) := by decide +kernel
theorem d_XSearch_arrange_103 : decode Y_XSearch_arrange.2.1 103 = .ok (.isub, 1) := by decide +kernel
theorem d_XSearch_arrange_104 : decode Y_XSearch_arrange.2.1 104 = .ok (.istore_n 2, 1) := by decide +kernel
theorem d_XSearch_arrange_105 : decode Y_XSearch_arrange.2.1 105 = .ok (.iload_n 2, 1) := by decide +kernel
theorem d_XSearch_arrange_106 : decode Y_XSearch_arrange.2.1 106 = .ok (.ifCond .lt (60), 3) := by decide +kernel
theorem d_XSearch_arrange_109 : decode Y_XSearch_arrange.2.1 109 = .ok (.aload_n 1, 1) := by decide +kernel
theorem d_XSearch_arrange_110 : decode Y_XSearch_arrange.2.1 110 = .ok (.iload_n 2, 1) := by decide +kernel
theorem d_XSearch_arrange_111 : decode Y_XSearch_arrange.2.1 111 = .ok (.baload, 1) := by decide +kernel
theorem d_XSearch_arrange_112 : decode Y_XSearch_arrange.2.1 112 = .ok (.ifCond .eq (48), 3) := by decide +kernel
theorem d_XSearch_arrange_115 : decode Y_XSearch_arrange.2.1 115 = .ok (.aload_n 0, 1) := by decide +kernel
theorem d_XSearch_arrange_116 : decode Y_XSearch_arrange.2.1 116 = .ok (.getfield 9, 3) := by decide +kernel
theorem d_XSearch_arrange_119 : decode Y_XSearch_arrange.2.1 119 = .ok (.getfield 117, 3) := by decide +kernel
theorem d_XSearch_arrange_122 : decode Y_XSearch_arrange.2.1 122 = .ok (.iload_n 2, 1) := by decide +kernel
theorem d_XSearch_arrange_123 : decode Y_XSearch_arrange.2.1 123 = .ok (.iaload, 1) := by decide +kernel
theorem d_XSearch_arrange_124 : decode Y_XSearch_arrange.2.1 124 = .ok (.iconst 5, 1) := by decide +kernel
theorem d_XSearch_arrange_125 : decode Y_XSearch_arrange.2.1 125 = .ok (.if_icmp .le (35), 3) := by decide +kernel
theorem d_XSearch_arrange_128 : decode Y_XSearch_arrange.2.1 128 = .ok (.aload_n 0, 1) := by decide +kernel
theorem d_XSearch_arrange_129 : decode Y_XSearch_arrange.2.1 129 = .ok (.getfield 44, 3) := by decide +kernel
theorem d_XSearch_arrange_132 : decode Y_XSearch_arrange.2.1 132 = .ok (.aload_n 0, 1) := by decide +kernel
theorem d_XSearch_arrange_133 : decode Y_XSearch_arrange.2.1 133 = .ok (.getfield 38, 3) := by decide +kernel
theorem d_XSearch_arrange_136 : decode Y_XSearch_arrange.2.1 136 = .ok (.iload_n 2, 1) := by decide +kernel
theorem d_XSearch_arrange_137 : decode Y_XSearch_arrange.2.1 137 = .ok (.iaload, 1) := by decide +kernel
theorem d_XSearch_arrange_138 : decode Y_XSearch_arrange.2.1 138 = .ok (.dup2, 1) := by decide +kernel
theorem d_XSearch_arrange_139 : decode Y_XSearch_arrange.2.1 139 = .ok (.iaload, 1) := by decide +kernel
theorem d_XSearch_arrange_140 : decode Y_XSearch_arrange.2.1 140 = .ok (.iconst 1, 1) := by decide +kernel
theorem d_XSearch_arrange_141 : decode Y_XSearch_arrange.2.1 141 = .ok (.isub, 1) := by decide +kernel
theorem d_XSearch_arrange_142 : decode Y_XSearch_arrange.2.1 142 = .ok (.iastore, 1) := by decide +kernel
theorem d_XSearch_arrange_143 : decode Y_XSearch_arrange.2.1 143 = .ok (.aload_n 0, 1) := by decide +kernel
theorem d_XSearch_arrange_144 : decode Y_XSearch_arrange.2.1 144 = .ok (.getfield 41, 3) := by decide +kernel
theorem d_XSearch_arrange_147 : decode Y_XSearch_arrange.2.1 147 = .ok (.aload_n 0, 1) := by decide +kernel
theorem d_XSearch_arrange_148 : decode Y_XSearch_arrange.2.1 148 = .ok (.getfield 44, 3) := by decide +kernel
theorem d_XSearch_arrange_151 : decode Y_XSearch_arrange.2.1 151 = .ok (.aload_n 0, 1) := by decide +kernel
theorem d_XSearch_arrange_152 : decode Y_XSearch_arrange.2.1 152 = .ok (.getfield 38, 3) := by decide +kernel
theorem d_XSearch_arrange_155 : decode Y_XSearch_arrange.2.1 155 = .ok (.iload_n 2, 1) := by decide +kernel
theorem d_XSearch_arrange_156 : decode Y_XSearch_arrange.2.1 156 = .ok (.iaload, 1) := by decide +kernel
theorem d_XSearch_arrange_157 : decode Y_XSearch_arrange.2.1 157 = .ok (.iaload, 1) := by decide +kernel
theorem d_XSearch_arrange_158 : decode Y_XSearch_arrange.2.1 158 = .ok (.iload_n 2, 1) := by decide +kernel
theorem d_XSearch_arrange_159 : decode Y_XSearch_arrange.2.1 159 = .ok (.iastore, 1) := by decide +kernel
theorem d_XSearch_arrange_160 : decode Y_XSearch_arrange.2.1 160 = .ok (.iinc 2 (-1), 3) := by decide +kernel
theorem d_XSearch_arrange_163 : decode Y_XSearch_arrange.2.1 163 = .ok (.goto (-58), 3) := by decide +kernel
theorem d_XSearch_arrange_166 : decode Y_XSearch_arrange.2.1 166 = .ok (.return_, 1) := by decide +kernel
def F_XSearch_arrange_55 (n : Nat) (rec10 : Nat → Nat → Int32 → PM → qO) (l0 : Nat) (l1 : Nat) (l2 : Int32) (M : PM) : qO :=
  bI (l2 + (1 : Int32)) (fun v1 =>
  rec10 l0 l1 v1 M)
set_option maxHeartbeats 4000000 in
set_option maxRecDepth 100000 in
theorem E_XSearch_arrange_55 {g : qG} {X : qX} {Z : qZ} (hn : 1 ≤ zn Z) (hl : 23 ≤ zl Z) {n : Nat} {rec10 : Nat → Nat → Int32 → PM → qO} (hrec10 : ∀ (l0 : Nat) (l1 : Nat) (l2 : Int32) (M : PM), rec10 l0 l1 l2 M = some (zr Z, zf Z) → EW Y_XSearch_arrange g X Z 10 [(0, .ref l0), (1, .ref l1), (2, .int l2)] [] M) {l0 : Nat} {l1 : Nat} {l2 : Int32} {M : PM} (h : F_XSearch_arrange_55 n rec10 l0 l1 l2 M = some (zr Z, zf Z)) : EW Y_XSearch_arrange g X Z 55 [(0, .ref l0), (1, .ref l1), (2, .int l2)] [] M := by
  unfold F_XSearch_arrange_55 at h
  obtain ⟨v1, ev1, h⟩ := bI_inv h
  refine ew_iinc (L' := [(0, .ref l0), (1, .ref l1), (2, .int v1)]) v1 [1, 2, 0] d_XSearch_arrange_55 rfl (by rw [ev1]; rfl) (by decide) rfl ?_
  refine ew_goto 10 d_XSearch_arrange_58 (by decide) ?_
  exact hrec10 l0 l1 v1 M h
def F_XSearch_arrange_160 (n : Nat) (rec105 : Nat → Nat → Int32 → PM → qO) (l0 : Nat) (l1 : Nat) (l2 : Int32) (M : PM) : qO :=
  bI (l2 + (-1 : Int32)) (fun v1 =>
  rec105 l0 l1 v1 M)
set_option maxHeartbeats 4000000 in
set_option maxRecDepth 100000 in
theorem E_XSearch_arrange_160 {g : qG} {X : qX} {Z : qZ} (hn : 1 ≤ zn Z) (hl : 23 ≤ zl Z) {n : Nat} {rec105 : Nat → Nat → Int32 → PM → qO} (hrec105 : ∀ (l0 : Nat) (l1 : Nat) (l2 : Int32) (M : PM), rec105 l0 l1 l2 M = some (zr Z, zf Z) → EW Y_XSearch_arrange g X Z 105 [(0, .ref l0), (1, .ref l1), (2, .int l2)] [] M) {l0 : Nat} {l1 : Nat} {l2 : Int32} {M : PM} (h : F_XSearch_arrange_160 n rec105 l0 l1 l2 M = some (zr Z, zf Z)) : EW Y_XSearch_arrange g X Z 160 [(0, .ref l0), (1, .ref l1), (2, .int l2)] [] M := by
  unfold F_XSearch_arrange_160 at h
  obtain ⟨v1, ev1, h⟩ := bI_inv h
  refine ew_iinc (L' := [(0, .ref l0), (1, .ref l1), (2, .int v1)]) v1 [1, 2, 0] d_XSearch_arrange_160 rfl (by rw [ev1]; rfl) (by decide) rfl ?_
  refine ew_goto 105 d_XSearch_arrange_163 (by decide) ?_
  exact hrec105 l0 l1 v1 M h
def F_XSearch_arrange_105 (n : Nat) : Nat → Nat → Nat → Int32 → PM → qO
  | 0, _, _, _, _ => none
  | f + 1, l0, l1, l2, M =>
    if l2 < (0 : Int32) then
      some (.inl none, M)
    else
      lZ M l1 l2 (fun v2 =>
      if v2 = (0 : Int32) then
        F_XSearch_arrange_160 n (F_XSearch_arrange_105 n f) l0 l1 l2 M
      else
        gR 8 M l0 0 (fun v4 =>
        gR 3 M v4 0 (fun v5 =>
        lI M v5 l2 (fun v6 =>
        if v6 ≤ (5 : Int32) then
          F_XSearch_arrange_160 n (F_XSearch_arrange_105 n f) l0 l1 l2 M
        else
          gR 8 M l0 8 (fun v8 =>
          gR 8 M l0 6 (fun v9 =>
          lI M v9 l2 (fun v10 =>
          lI M v8 v10 (fun v11 =>
          wI M v8 v10 (v11 - (1 : Int32)) (fun M12 =>
          gR 8 M12 l0 7 (fun v13 =>
          gR 8 M12 l0 8 (fun v14 =>
          gR 8 M12 l0 6 (fun v15 =>
          lI M12 v15 l2 (fun v16 =>
          lI M12 v14 v16 (fun v17 =>
          wI M12 v13 v17 l2 (fun M18 =>
          F_XSearch_arrange_160 n (F_XSearch_arrange_105 n f) l0 l1 l2 M18)))))))))))))))
set_option maxHeartbeats 4000000 in
set_option maxRecDepth 100000 in
theorem E_XSearch_arrange_105 {g : qG} {X : qX} {Z : qZ} (hn : 1 ≤ zn Z) (hl : 23 ≤ zl Z) {n : Nat} : ∀ (f : Nat) (l0 : Nat) (l1 : Nat) (l2 : Int32) (M : PM), F_XSearch_arrange_105 n f l0 l1 l2 M = some (zr Z, zf Z) → EW Y_XSearch_arrange g X Z 105 [(0, .ref l0), (1, .ref l1), (2, .int l2)] [] M := by
  intro f
  induction f with
  | zero => intro l0 l1 l2 M h; rw [F_XSearch_arrange_105] at h; cases h
  | succ f ih =>
    intro l0 l1 l2 M h
    rw [F_XSearch_arrange_105] at h
    refine ew_iload_n 2 d_XSearch_arrange_105 rfl rfl ?_
    refine ew_if_lt 166 d_XSearch_arrange_106 (by decide) (fun c1 => ?_) (fun c1 => ?_)
    · rw [if_pos c1] at h
      obtain ⟨hz, hm⟩ := Prod.mk.inj (Option.some.inj h)
      exact ew_return d_XSearch_arrange_166 rfl hz.symm hm.symm
    · rw [if_neg c1] at h
      refine ew_aload_n 1 d_XSearch_arrange_109 rfl rfl ?_
      refine ew_iload_n 2 d_XSearch_arrange_110 rfl rfl ?_
      obtain ⟨v2, av2, bv2, cv2, ev2, h⟩ := lZ_inv h
      refine ew_lZ d_XSearch_arrange_111 av2 bv2 cv2 ev2 ?_
      refine ew_if_eq 160 d_XSearch_arrange_112 (by decide) (fun c3 => ?_) (fun c3 => ?_)
      · rw [if_pos c3] at h
        exact E_XSearch_arrange_160 hn hl ih h
      · rw [if_neg c3] at h
        refine ew_aload_n 0 d_XSearch_arrange_115 rfl rfl ?_
        obtain ⟨v4, av4, bv4, h⟩ := gR_inv h
        refine ew_gR 8 0 d_XSearch_arrange_116 fl_XSearch_9 av4 bv4 ?_
        obtain ⟨v5, av5, bv5, h⟩ := gR_inv h
        refine ew_gR 3 0 d_XSearch_arrange_119 fl_XSearch_117 av5 bv5 ?_
        refine ew_iload_n 2 d_XSearch_arrange_122 rfl rfl ?_
        obtain ⟨v6, av6, bv6, cv6, ev6, h⟩ := lI_inv h
        refine ew_lI d_XSearch_arrange_123 av6 bv6 cv6 ev6 ?_
        refine ew_iconst (5) d_XSearch_arrange_124 (by decide) ?_
        refine ew_icmp_le 160 d_XSearch_arrange_125 (by decide) (fun c7 => ?_) (fun c7 => ?_)
        · rw [if_pos c7] at h
          exact E_XSearch_arrange_160 hn hl ih h
        · rw [if_neg c7] at h
          refine ew_aload_n 0 d_XSearch_arrange_128 rfl rfl ?_
          obtain ⟨v8, av8, bv8, h⟩ := gR_inv h
          refine ew_gR 8 8 d_XSearch_arrange_129 fl_XSearch_44 av8 bv8 ?_
          refine ew_aload_n 0 d_XSearch_arrange_132 rfl rfl ?_
          obtain ⟨v9, av9, bv9, h⟩ := gR_inv h
          refine ew_gR 8 6 d_XSearch_arrange_133 fl_XSearch_38 av9 bv9 ?_
          refine ew_iload_n 2 d_XSearch_arrange_136 rfl rfl ?_
          obtain ⟨v10, av10, bv10, cv10, ev10, h⟩ := lI_inv h
          refine ew_lI d_XSearch_arrange_137 av10 bv10 cv10 ev10 ?_
          refine ew_dup2 d_XSearch_arrange_138 rfl rfl ?_
          obtain ⟨v11, av11, bv11, cv11, ev11, h⟩ := lI_inv h
          refine ew_lI d_XSearch_arrange_139 av11 bv11 cv11 ev11 ?_
          refine ew_iconst (1) d_XSearch_arrange_140 (by decide) ?_
          refine ew_isub d_XSearch_arrange_141 ?_
          obtain ⟨M12, aM12, bM12, cM12, eM12, h⟩ := wI_inv h
          refine ew_wI d_XSearch_arrange_142 aM12 bM12 cM12 eM12 ?_
          refine ew_aload_n 0 d_XSearch_arrange_143 rfl rfl ?_
          obtain ⟨v13, av13, bv13, h⟩ := gR_inv h
          refine ew_gR 8 7 d_XSearch_arrange_144 fl_XSearch_41 av13 bv13 ?_
          refine ew_aload_n 0 d_XSearch_arrange_147 rfl rfl ?_
          obtain ⟨v14, av14, bv14, h⟩ := gR_inv h
          refine ew_gR 8 8 d_XSearch_arrange_148 fl_XSearch_44 av14 bv14 ?_
          refine ew_aload_n 0 d_XSearch_arrange_151 rfl rfl ?_
          obtain ⟨v15, av15, bv15, h⟩ := gR_inv h
          refine ew_gR 8 6 d_XSearch_arrange_152 fl_XSearch_38 av15 bv15 ?_
          refine ew_iload_n 2 d_XSearch_arrange_155 rfl rfl ?_
          obtain ⟨v16, av16, bv16, cv16, ev16, h⟩ := lI_inv h
          refine ew_lI d_XSearch_arrange_156 av16 bv16 cv16 ev16 ?_
          obtain ⟨v17, av17, bv17, cv17, ev17, h⟩ := lI_inv h
          refine ew_lI d_XSearch_arrange_157 av17 bv17 cv17 ev17 ?_
          refine ew_iload_n 2 d_XSearch_arrange_158 rfl rfl ?_
          obtain ⟨M18, aM18, bM18, cM18, eM18, h⟩ := wI_inv h
          refine ew_wI d_XSearch_arrange_159 aM18 bM18 cM18 eM18 ?_
          exact E_XSearch_arrange_160 hn hl ih h
def F_XSearch_arrange_63 (n : Nat) : Nat → Nat → Nat → Int32 → PM → qO
  | 0, _, _, _, _ => none
  | f + 1, l0, l1, l2, M =>
    gR 8 M l0 8 (fun v1 =>
    aL M v1 (fun v2 =>
    if v2 ≤ l2 then
      gR 8 M l0 0 (fun v4 =>
      gI 3 M v4 7 (fun v5 =>
      bI (v5 - (1 : Int32)) (fun v6 =>
      F_XSearch_arrange_105 n n l0 l1 v6 M)))
    else
      gR 8 M l0 8 (fun v7 =>
      lI M v7 l2 (fun v8 =>
      gR 8 M l0 8 (fun v9 =>
      lI M v9 (l2 - (1 : Int32)) (fun v10 =>
      wI M v7 l2 (v8 + v10) (fun M11 =>
      bI (l2 + (1 : Int32)) (fun v12 =>
      (F_XSearch_arrange_63 n f) l0 l1 v12 M11))))))))
set_option maxHeartbeats 4000000 in
set_option maxRecDepth 100000 in
theorem E_XSearch_arrange_63 {g : qG} {X : qX} {Z : qZ} (hn : 1 ≤ zn Z) (hl : 23 ≤ zl Z) {n : Nat} : ∀ (f : Nat) (l0 : Nat) (l1 : Nat) (l2 : Int32) (M : PM), F_XSearch_arrange_63 n f l0 l1 l2 M = some (zr Z, zf Z) → EW Y_XSearch_arrange g X Z 63 [(0, .ref l0), (1, .ref l1), (2, .int l2)] [] M := by
  intro f
  induction f with
  | zero => intro l0 l1 l2 M h; rw [F_XSearch_arrange_63] at h; cases h
  | succ f ih =>
    intro l0 l1 l2 M h
    rw [F_XSearch_arrange_63] at h
    refine ew_iload_n 2 d_XSearch_arrange_63 rfl rfl ?_
    refine ew_aload_n 0 d_XSearch_arrange_64 rfl rfl ?_
    obtain ⟨v1, av1, bv1, h⟩ := gR_inv h
    refine ew_gR 8 8 d_XSearch_arrange_65 fl_XSearch_44 av1 bv1 ?_
    obtain ⟨v2, av2, ev2, h⟩ := aL_inv h
    refine ew_aL d_XSearch_arrange_68 av2 ev2 ?_
    refine ew_icmp_ge 95 d_XSearch_arrange_69 (by decide) (fun c3 => ?_) (fun c3 => ?_)
    · rw [if_pos c3] at h
      refine ew_aload_n 0 d_XSearch_arrange_95 rfl rfl ?_
      obtain ⟨v4, av4, bv4, h⟩ := gR_inv h
      refine ew_gR 8 0 d_XSearch_arrange_96 fl_XSearch_9 av4 bv4 ?_
      obtain ⟨v5, av5, bv5, h⟩ := gI_inv h
      refine ew_gI 3 7 d_XSearch_arrange_99 fl_XSearch_114 av5 bv5 ?_
      refine ew_iconst (1) d_XSearch_arrange_102 (by decide) ?_
      refine ew_isub d_XSearch_arrange_103 ?_
      obtain ⟨v6, ev6, h⟩ := bI_inv h
      refine ew_topI ev6 ?_
      refine ew_istore_n (L' := [(0, .ref l0), (1, .ref l1), (2, .int v6)]) 2 [1, 2, 0] d_XSearch_arrange_104 rfl (by decide) rfl ?_
      exact E_XSearch_arrange_105 hn hl n l0 l1 v6 M h
    · rw [if_neg c3] at h
      refine ew_aload_n 0 d_XSearch_arrange_72 rfl rfl ?_
      obtain ⟨v7, av7, bv7, h⟩ := gR_inv h
      refine ew_gR 8 8 d_XSearch_arrange_73 fl_XSearch_44 av7 bv7 ?_
      refine ew_iload_n 2 d_XSearch_arrange_76 rfl rfl ?_
      refine ew_dup2 d_XSearch_arrange_77 rfl rfl ?_
      obtain ⟨v8, av8, bv8, cv8, ev8, h⟩ := lI_inv h
      refine ew_lI d_XSearch_arrange_78 av8 bv8 cv8 ev8 ?_
      refine ew_aload_n 0 d_XSearch_arrange_79 rfl rfl ?_
      obtain ⟨v9, av9, bv9, h⟩ := gR_inv h
      refine ew_gR 8 8 d_XSearch_arrange_80 fl_XSearch_44 av9 bv9 ?_
      refine ew_iload_n 2 d_XSearch_arrange_83 rfl rfl ?_
      refine ew_iconst (1) d_XSearch_arrange_84 (by decide) ?_
      refine ew_isub d_XSearch_arrange_85 ?_
      obtain ⟨v10, av10, bv10, cv10, ev10, h⟩ := lI_inv h
      refine ew_lI d_XSearch_arrange_86 av10 bv10 cv10 ev10 ?_
      refine ew_iadd d_XSearch_arrange_87 ?_
      obtain ⟨M11, aM11, bM11, cM11, eM11, h⟩ := wI_inv h
      refine ew_wI d_XSearch_arrange_88 aM11 bM11 cM11 eM11 ?_
      obtain ⟨v12, ev12, h⟩ := bI_inv h
      refine ew_iinc (L' := [(0, .ref l0), (1, .ref l1), (2, .int v12)]) v12 [1, 2, 0] d_XSearch_arrange_89 rfl (by rw [ev12]; rfl) (by decide) rfl ?_
      refine ew_goto 63 d_XSearch_arrange_92 (by decide) ?_
      exact ih l0 l1 v12 M11 h
def F_XSearch_arrange_10 (n : Nat) : Nat → Nat → Nat → Int32 → PM → qO
  | 0, _, _, _, _ => none
  | f + 1, l0, l1, l2, M =>
    gR 8 M l0 0 (fun v1 =>
    gI 3 M v1 7 (fun v2 =>
    if v2 ≤ l2 then
      F_XSearch_arrange_63 n n l0 l1 (1 : Int32) M
    else
      lZ M l1 l2 (fun v4 =>
      if v4 = (0 : Int32) then
        F_XSearch_arrange_55 n (F_XSearch_arrange_10 n f) l0 l1 l2 M
      else
        gR 8 M l0 0 (fun v6 =>
        gR 3 M v6 0 (fun v7 =>
        lI M v7 l2 (fun v8 =>
        if v8 ≤ (5 : Int32) then
          F_XSearch_arrange_55 n (F_XSearch_arrange_10 n f) l0 l1 l2 M
        else
          gR 8 M l0 8 (fun v10 =>
          gR 8 M l0 6 (fun v11 =>
          lI M v11 l2 (fun v12 =>
          lI M v10 v12 (fun v13 =>
          wI M v10 v12 (v13 + (1 : Int32)) (fun M14 =>
          F_XSearch_arrange_55 n (F_XSearch_arrange_10 n f) l0 l1 l2 M14)))))))))))
set_option maxHeartbeats 4000000 in
set_option maxRecDepth 100000 in
theorem E_XSearch_arrange_10 {g : qG} {X : qX} {Z : qZ} (hn : 1 ≤ zn Z) (hl : 23 ≤ zl Z) {n : Nat} : ∀ (f : Nat) (l0 : Nat) (l1 : Nat) (l2 : Int32) (M : PM), F_XSearch_arrange_10 n f l0 l1 l2 M = some (zr Z, zf Z) → EW Y_XSearch_arrange g X Z 10 [(0, .ref l0), (1, .ref l1), (2, .int l2)] [] M := by
  intro f
  induction f with
  | zero => intro l0 l1 l2 M h; rw [F_XSearch_arrange_10] at h; cases h
  | succ f ih =>
    intro l0 l1 l2 M h
    rw [F_XSearch_arrange_10] at h
    refine ew_iload_n 2 d_XSearch_arrange_10 rfl rfl ?_
    refine ew_aload_n 0 d_XSearch_arrange_11 rfl rfl ?_
    obtain ⟨v1, av1, bv1, h⟩ := gR_inv h
    refine ew_gR 8 0 d_XSearch_arrange_12 fl_XSearch_9 av1 bv1 ?_
    obtain ⟨v2, av2, bv2, h⟩ := gI_inv h
    refine ew_gI 3 7 d_XSearch_arrange_15 fl_XSearch_114 av2 bv2 ?_
    refine ew_icmp_ge 61 d_XSearch_arrange_18 (by decide) (fun c3 => ?_) (fun c3 => ?_)
    · rw [if_pos c3] at h
      refine ew_iconst (1) d_XSearch_arrange_61 (by decide) ?_
      refine ew_istore_n (L' := [(0, .ref l0), (1, .ref l1), (2, .int (1 : Int32))]) 2 [1, 2, 0] d_XSearch_arrange_62 rfl (by decide) rfl ?_
      exact E_XSearch_arrange_63 hn hl n l0 l1 (1 : Int32) M h
    · rw [if_neg c3] at h
      refine ew_aload_n 1 d_XSearch_arrange_21 rfl rfl ?_
      refine ew_iload_n 2 d_XSearch_arrange_22 rfl rfl ?_
      obtain ⟨v4, av4, bv4, cv4, ev4, h⟩ := lZ_inv h
      refine ew_lZ d_XSearch_arrange_23 av4 bv4 cv4 ev4 ?_
      refine ew_if_eq 55 d_XSearch_arrange_24 (by decide) (fun c5 => ?_) (fun c5 => ?_)
      · rw [if_pos c5] at h
        exact E_XSearch_arrange_55 hn hl ih h
      · rw [if_neg c5] at h
        refine ew_aload_n 0 d_XSearch_arrange_27 rfl rfl ?_
        obtain ⟨v6, av6, bv6, h⟩ := gR_inv h
        refine ew_gR 8 0 d_XSearch_arrange_28 fl_XSearch_9 av6 bv6 ?_
        obtain ⟨v7, av7, bv7, h⟩ := gR_inv h
        refine ew_gR 3 0 d_XSearch_arrange_31 fl_XSearch_117 av7 bv7 ?_
        refine ew_iload_n 2 d_XSearch_arrange_34 rfl rfl ?_
        obtain ⟨v8, av8, bv8, cv8, ev8, h⟩ := lI_inv h
        refine ew_lI d_XSearch_arrange_35 av8 bv8 cv8 ev8 ?_
        refine ew_iconst (5) d_XSearch_arrange_36 (by decide) ?_
        refine ew_icmp_le 55 d_XSearch_arrange_37 (by decide) (fun c9 => ?_) (fun c9 => ?_)
        · rw [if_pos c9] at h
          exact E_XSearch_arrange_55 hn hl ih h
        · rw [if_neg c9] at h
          refine ew_aload_n 0 d_XSearch_arrange_40 rfl rfl ?_
          obtain ⟨v10, av10, bv10, h⟩ := gR_inv h
          refine ew_gR 8 8 d_XSearch_arrange_41 fl_XSearch_44 av10 bv10 ?_
          refine ew_aload_n 0 d_XSearch_arrange_44 rfl rfl ?_
          obtain ⟨v11, av11, bv11, h⟩ := gR_inv h
          refine ew_gR 8 6 d_XSearch_arrange_45 fl_XSearch_38 av11 bv11 ?_
          refine ew_iload_n 2 d_XSearch_arrange_48 rfl rfl ?_
          obtain ⟨v12, av12, bv12, cv12, ev12, h⟩ := lI_inv h
          refine ew_lI d_XSearch_arrange_49 av12 bv12 cv12 ev12 ?_
          refine ew_dup2 d_XSearch_arrange_50 rfl rfl ?_
          obtain ⟨v13, av13, bv13, cv13, ev13, h⟩ := lI_inv h
          refine ew_lI d_XSearch_arrange_51 av13 bv13 cv13 ev13 ?_
          refine ew_iconst (1) d_XSearch_arrange_52 (by decide) ?_
          refine ew_iadd d_XSearch_arrange_53 ?_
          obtain ⟨M14, aM14, bM14, cM14, eM14, h⟩ := wI_inv h
          refine ew_wI d_XSearch_arrange_54 aM14 bM14 cM14 eM14 ?_
          exact E_XSearch_arrange_55 hn hl ih h
def F_XSearch_arrange (n : Nat) (l0 : Nat) (l1 : Nat) (M : PM) : qO :=
  gR 8 M l0 8 (fun v1 =>
  cV (F_JArrays_fill n v1 (0 : Int32) M) (fun M2 =>
  F_XSearch_arrange_10 n n l0 l1 (0 : Int32) M2))
set_option maxHeartbeats 4000000 in
set_option maxRecDepth 100000 in
theorem E_XSearch_arrange {g : qG} {X : qX} {Z : qZ} (hn : 1 ≤ zn Z) (hl : 23 ≤ zl Z) {n : Nat} {l0 : Nat} {l1 : Nat} {M : PM} (h : F_XSearch_arrange n l0 l1 M = some (zr Z, zf Z)) : EW Y_XSearch_arrange g X Z 0 [(0, .ref l0), (1, .ref l1)] [] M := by
  unfold F_XSearch_arrange at h
  refine ew_aload_n 0 d_XSearch_arrange_0 rfl rfl ?_
  obtain ⟨v1, av1, bv1, h⟩ := gR_inv h
  refine ew_gR 8 8 d_XSearch_arrange_1 fl_XSearch_44 av1 bv1 ?_
  refine ew_iconst (0) d_XSearch_arrange_4 (by decide) ?_
  obtain ⟨M2, hM2, h⟩ := cV_inv h
  refine ew_callS [.ref v1, .int (0 : Int32)] d_XSearch_arrange_5 cs_XSearch_149 (T_JArrays_fill hM2) (Nat.le_trans (Nat.le_of_ble_eq_true rfl) hn) (Nat.le_trans (Nat.le_of_ble_eq_true rfl) hl) (Nat.le_of_ble_eq_true rfl) rfl rfl ?_
  refine ew_iconst (0) d_XSearch_arrange_8 (by decide) ?_
  refine ew_istore_n (L' := [(0, .ref l0), (1, .ref l1), (2, .int (0 : Int32))]) 2 [1, 2, 0] d_XSearch_arrange_9 rfl (by decide) rfl ?_
  exact E_XSearch_arrange_10 hn hl n l0 l1 (0 : Int32) M2 h
theorem T_XSearch_arrange {n : Nat} {l0 : Nat} {l1 : Nat} {M Mf : PM} {res : qRs} (h : F_XSearch_arrange n l0 l1 M = some (res, Mf)) : CT Y_XSearch_arrange 1 23 [.ref l0, .ref l1] M res Mf :=
  CT_of (by decide) (Nat.le_of_ble_eq_true rfl) (qHd_ne (by decide)) (fun g X ad0 => E_XSearch_arrange (g := g) (X := X) (Z := (ad0, M, res, Mf, 1, 23)) (Nat.le_refl _) (Nat.le_refl _) h)
theorem d_XSearch_setTruths_0 : decode Y_XSearch_setTruths.2.1 0 = .ok (.aload_n 0, 1) := by decide +kernel
theorem d_XSearch_setTruths_1 : decode Y_XSearch_setTruths.2.1 1 = .ok (.getfield 24, 3) := by decide +kernel
theorem d_XSearch_setTruths_4 : decode Y_XSearch_setTruths.2.1 4 = .ok (.iconst 0, 1) := by decide +kernel
theorem d_XSearch_setTruths_5 : decode Y_XSearch_setTruths.2.1 5 = .ok (.lconst 0, 1) := by decide +kernel
theorem d_XSearch_setTruths_6 : decode Y_XSearch_setTruths.2.1 6 = .ok (.invokevirtual 155, 3) := by decide +kernel
theorem d_XSearch_setTruths_9 : decode Y_XSearch_setTruths.2.1 9 = .ok (.aload_n 0, 1) := by decide +kernel
theorem d_XSearch_setTruths_10 : decode Y_XSearch_setTruths.2.1 10 = .ok (.getfield 24, 3) := by decide +kernel
theorem d_XSearch_setTruths_13 : decode Y_XSearch_setTruths.2.1 13 = .ok (.iconst 1, 1) := by decide +kernel
theorem d_XSearch_setTruths_14 : decode Y_XSearch_setTruths.2.1 14 = .ok (.ldc2_w 159, 3) := by decide +kernel
theorem d_XSearch_setTruths_17 : decode Y_XSearch_setTruths.2.1 17 = .ok (.invokevirtual 155, 3) := by decide +kernel
theorem d_XSearch_setTruths_20 : decode Y_XSearch_setTruths.2.1 20 = .ok (.iconst 0, 1) := by decide +kernel
theorem d_XSearch_setTruths_21 : decode Y_XSearch_setTruths.2.1 21 = .ok (.istore_n 1, 1) := by decide +kernel
theorem d_XSearch_setTruths_22 : decode Y_XSearch_setTruths.2.1 22 = .ok (.iload_n 1, 1) := by decide +kernel
theorem d_XSearch_setTruths_23 : decode Y_XSearch_setTruths.2.1 23 = .ok (.aload_n 0, 1) := by decide +kernel
theorem d_XSearch_setTruths_24 : decode Y_XSearch_setTruths.2.1 24 = .ok (.getfield 74, 3) := by decide +kernel
theorem d_XSearch_setTruths_27 : decode Y_XSearch_setTruths.2.1 27 = .ok (.if_icmp .ge (34), 3) := by decide +kernel
theorem d_XSearch_setTruths_30 : decode Y_XSearch_setTruths.2.1 30 = .ok (.aload_n 0, 1) := by decide +kernel
theorem d_XSearch_setTruths_31 : decode Y_XSearch_setTruths.2.1 31 = .ok (.getfield 24, 3) := by decide +kernel
theorem d_XSearch_setTruths_34 : decode Y_XSearch_setTruths.2.1 34 = .ok (.aload_n 0, 1) := by decide +kernel
theorem d_XSearch_setTruths_35 : decode Y_XSearch_setTruths.2.1 35 = .ok (.getfield 28, 3) := by decide +kernel
theorem d_XSearch_setTruths_38 : decode Y_XSearch_setTruths.2.1 38 = .ok (.iload_n 1, 1) := by decide +kernel
theorem d_XSearch_setTruths_39 : decode Y_XSearch_setTruths.2.1 39 = .ok (.iaload, 1) := by decide +kernel
theorem d_XSearch_setTruths_40 : decode Y_XSearch_setTruths.2.1 40 = .ok (.getstatic 161, 3) := by decide +kernel
theorem d_XSearch_setTruths_43 : decode Y_XSearch_setTruths.2.1 43 = .ok (.aload_n 0, 1) := by decide +kernel
theorem d_XSearch_setTruths_44 : decode Y_XSearch_setTruths.2.1 44 = .ok (.getfield 74, 3) := by decide +kernel
theorem d_XSearch_setTruths_47 : decode Y_XSearch_setTruths.2.1 47 = .ok (.iconst 1, 1) := by decide +kernel
theorem d_XSearch_setTruths_48 : decode Y_XSearch_setTruths.2.1 48 = .ok (.isub, 1) := by decide +kernel
theorem d_XSearch_setTruths_49 : decode Y_XSearch_setTruths.2.1 49 = .ok (.iload_n 1, 1) := by decide +kernel
theorem d_XSearch_setTruths_50 : decode Y_XSearch_setTruths.2.1 50 = .ok (.isub, 1) := by decide +kernel
theorem d_XSearch_setTruths_51 : decode Y_XSearch_setTruths.2.1 51 = .ok (.laload, 1) := by decide +kernel
theorem d_XSearch_setTruths_52 : decode Y_XSearch_setTruths.2.1 52 = .ok (.invokevirtual 155, 3) := by decide +kernel
theorem d_XSearch_setTruths_55 : decode Y_XSearch_setTruths.2.1 55 = .ok (.iinc 1 (1), 3) := by decide +kernel
theorem d_XSearch_setTruths_58 : decode Y_XSearch_setTruths.2.1 58 = .ok (.goto (-36), 3) := by decide +kernel
theorem d_XSearch_setTruths_61 : decode Y_XSearch_setTruths.2.1 61 = .ok (.return_, 1) := by decide +kernel
def F_XSearch_setTruths_22 (n : Nat) : Nat → Nat → Int32 → PM → qO
  | 0, _, _, _ => none
  | f + 1, l0, l1, M =>
    gI 8 M l0 10 (fun v1 =>
    if v1 ≤ l1 then
      some (.inl none, M)
    else
      gR 8 M l0 2 (fun v3 =>
      gR 8 M l0 3 (fun v4 =>
      lI M v4 l1 (fun v5 =>
      gI 8 M l0 10 (fun v6 =>
      tb ((v6 - (1 : Int32)) - l1) (fun v7 =>
      kO 5 M v3 (
      cV (F_XPlanes_setTruth n v3 v5 v7 M) (fun M8 =>
      bI (l1 + (1 : Int32)) (fun v9 =>
      (F_XSearch_setTruths_22 n f) l0 v9 M8)))))))))
set_option maxHeartbeats 4000000 in
set_option maxRecDepth 100000 in
theorem E_XSearch_setTruths_22 {g : qG} {X : qX} {Z : qZ} (hn : 1 ≤ zn Z) (hl : 23 ≤ zl Z) {n : Nat} : ∀ (f : Nat) (l0 : Nat) (l1 : Int32) (M : PM), F_XSearch_setTruths_22 n f l0 l1 M = some (zr Z, zf Z) → EW Y_XSearch_setTruths g X Z 22 [(0, .ref l0), (1, .int l1)] [] M := by
  intro f
  induction f with
  | zero => intro l0 l1 M h; rw [F_XSearch_setTruths_22] at h; cases h
  | succ f ih =>
    intro l0 l1 M h
    rw [F_XSearch_setTruths_22] at h
    refine ew_iload_n 1 d_XSearch_setTruths_22 rfl rfl ?_
    refine ew_aload_n 0 d_XSearch_setTruths_23 rfl rfl ?_
    obtain ⟨v1, av1, bv1, h⟩ := gI_inv h
    refine ew_gI 8 10 d_XSearch_setTruths_24 fl_XSearch_74 av1 bv1 ?_
    refine ew_icmp_ge 61 d_XSearch_setTruths_27 (by decide) (fun c2 => ?_) (fun c2 => ?_)
    · rw [if_pos c2] at h
      obtain ⟨hz, hm⟩ := Prod.mk.inj (Option.some.inj h)
      exact ew_return d_XSearch_setTruths_61 rfl hz.symm hm.symm
    · rw [if_neg c2] at h
      refine ew_aload_n 0 d_XSearch_setTruths_30 rfl rfl ?_
      obtain ⟨v3, av3, bv3, h⟩ := gR_inv h
      refine ew_gR 8 2 d_XSearch_setTruths_31 fl_XSearch_24 av3 bv3 ?_
      refine ew_aload_n 0 d_XSearch_setTruths_34 rfl rfl ?_
      obtain ⟨v4, av4, bv4, h⟩ := gR_inv h
      refine ew_gR 8 3 d_XSearch_setTruths_35 fl_XSearch_28 av4 bv4 ?_
      refine ew_iload_n 1 d_XSearch_setTruths_38 rfl rfl ?_
      obtain ⟨v5, av5, bv5, cv5, ev5, h⟩ := lI_inv h
      refine ew_lI d_XSearch_setTruths_39 av5 bv5 cv5 ev5 ?_
      refine ew_gets d_XSearch_setTruths_40 gs_XSearch_161 ?_
      refine ew_aload_n 0 d_XSearch_setTruths_43 rfl rfl ?_
      obtain ⟨v6, av6, bv6, h⟩ := gI_inv h
      refine ew_gI 8 10 d_XSearch_setTruths_44 fl_XSearch_74 av6 bv6 ?_
      refine ew_iconst (1) d_XSearch_setTruths_47 (by decide) ?_
      refine ew_isub d_XSearch_setTruths_48 ?_
      refine ew_iload_n 1 d_XSearch_setTruths_49 rfl rfl ?_
      refine ew_isub d_XSearch_setTruths_50 ?_
      obtain ⟨v7, av7, ev7, h⟩ := tb_inv h
      refine ew_tld d_XSearch_setTruths_51 av7 ev7 ?_
      obtain ⟨kM8, h⟩ := kO_inv h
      obtain ⟨M8, hM8, h⟩ := cV_inv h
      refine ew_callV 5 [.int v5, .long v7] d_XSearch_setTruths_52 cv_XSearch_155 (T_XPlanes_setTruth hM8) kM8 (Nat.le_trans (Nat.le_of_ble_eq_true rfl) hn) (Nat.le_trans (Nat.le_of_ble_eq_true rfl) hl) (Nat.le_of_ble_eq_true rfl) rfl rfl ?_
      obtain ⟨v9, ev9, h⟩ := bI_inv h
      refine ew_iinc (L' := [(0, .ref l0), (1, .int v9)]) v9 [1, 0] d_XSearch_setTruths_55 rfl (by rw [ev9]; rfl) (by decide) rfl ?_
      refine ew_goto 22 d_XSearch_setTruths_58 (by decide) ?_
      exact ih l0 v9 M8 h
def F_XSearch_setTruths (n : Nat) (l0 : Nat) (M : PM) : qO :=
  gR 8 M l0 2 (fun v1 =>
  kO 5 M v1 (
  cV (F_XPlanes_setTruth n v1 (0 : Int32) (0 : Int64) M) (fun M2 =>
  gR 8 M2 l0 2 (fun v3 =>
  kO 5 M2 v3 (
  cV (F_XPlanes_setTruth n v3 (1 : Int32) (-1 : Int64) M2) (fun M4 =>
  F_XSearch_setTruths_22 n n l0 (0 : Int32) M4))))))
set_option maxHeartbeats 4000000 in
set_option maxRecDepth 100000 in
theorem E_XSearch_setTruths {g : qG} {X : qX} {Z : qZ} (hn : 1 ≤ zn Z) (hl : 23 ≤ zl Z) {n : Nat} {l0 : Nat} {M : PM} (h : F_XSearch_setTruths n l0 M = some (zr Z, zf Z)) : EW Y_XSearch_setTruths g X Z 0 [(0, .ref l0)] [] M := by
  unfold F_XSearch_setTruths at h
  refine ew_aload_n 0 d_XSearch_setTruths_0 rfl rfl ?_
  obtain ⟨v1, av1, bv1, h⟩ := gR_inv h
  refine ew_gR 8 2 d_XSearch_setTruths_1 fl_XSearch_24 av1 bv1 ?_
  refine ew_iconst (0) d_XSearch_setTruths_4 (by decide) ?_
  refine ew_lconst 0 d_XSearch_setTruths_5 (by decide) ?_
  obtain ⟨kM2, h⟩ := kO_inv h
  obtain ⟨M2, hM2, h⟩ := cV_inv h
  refine ew_callV 5 [.int (0 : Int32), .long (0 : Int64)] d_XSearch_setTruths_6 cv_XSearch_155 (T_XPlanes_setTruth hM2) kM2 (Nat.le_trans (Nat.le_of_ble_eq_true rfl) hn) (Nat.le_trans (Nat.le_of_ble_eq_true rfl) hl) (Nat.le_of_ble_eq_true rfl) rfl rfl ?_
  refine ew_aload_n 0 d_XSearch_setTruths_9 rfl rfl ?_
  obtain ⟨v3, av3, bv3, h⟩ := gR_inv h
  refine ew_gR 8 2 d_XSearch_setTruths_10 fl_XSearch_24 av3 bv3 ?_
  refine ew_iconst (1) d_XSearch_setTruths_13 (by decide) ?_
  refine ew_ldc2 (-1) d_XSearch_setTruths_14 ct_XSearch_159 ?_
  obtain ⟨kM4, h⟩ := kO_inv h
  obtain ⟨M4, hM4, h⟩ := cV_inv h
  refine ew_callV 5 [.int (1 : Int32), .long (-1 : Int64)] d_XSearch_setTruths_17 cv_XSearch_155 (T_XPlanes_setTruth hM4) kM4 (Nat.le_trans (Nat.le_of_ble_eq_true rfl) hn) (Nat.le_trans (Nat.le_of_ble_eq_true rfl) hl) (Nat.le_of_ble_eq_true rfl) rfl rfl ?_
  refine ew_iconst (0) d_XSearch_setTruths_20 (by decide) ?_
  refine ew_istore_n (L' := [(0, .ref l0), (1, .int (0 : Int32))]) 1 [1, 0] d_XSearch_setTruths_21 rfl (by decide) rfl ?_
  exact E_XSearch_setTruths_22 hn hl n l0 (0 : Int32) M4 h
theorem T_XSearch_setTruths {n : Nat} {l0 : Nat} {M Mf : PM} {res : qRs} (h : F_XSearch_setTruths n l0 M = some (res, Mf)) : CT Y_XSearch_setTruths 1 23 [.ref l0] M res Mf :=
  CT_of (by decide) (Nat.le_of_ble_eq_true rfl) (qHd_ne (by decide)) (fun g X ad0 => E_XSearch_setTruths (g := g) (X := X) (Z := (ad0, M, res, Mf, 1, 23)) (Nat.le_refl _) (Nat.le_refl _) h)
