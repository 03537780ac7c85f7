theorem d_X_requireRoomForElement_0 : decode Y_X_requireRoomForElement.2.1 0 = .ok (.aload_n 0, 1) := by decide +kernel
theorem d_X_requireRoomForElement_1 : decode Y_X_requireRoomForElement.2.1 1 = .ok (.getfield 12, 3) := by decide +kernel
theorem d_X_requireRoomForElement_4 : decode Y_X_requireRoomForElement.2.1 4 = .ok (.getfield 168, 3) := by decide +kernel
theorem d_X_requireRoomForElement_7 : decode Y_X_requireRoomForElement.2.1 7 = .ok (.bipush (16), 2) := by decide +kernel
theorem d_X_requireRoomForElement_9 : decode Y_X_requireRoomForElement.2.1 9 = .ok (.if_icmp .ge (19), 3) := by decide +kernel
theorem d_X_requireRoomForElement_12 : decode Y_X_requireRoomForElement.2.1 12 = .ok (.aload_n 0, 1) := by decide +kernel
theorem d_X_requireRoomForElement_13 : decode Y_X_requireRoomForElement.2.1 13 = .ok (.getfield 12, 3) := by decide +kernel
theorem d_X_requireRoomForElement_16 : decode Y_X_requireRoomForElement.2.1 16 = .ok (.getfield 51, 3) := by decide +kernel
theorem d_X_requireRoomForElement_19 : decode Y_X_requireRoomForElement.2.1 19 = .ok (.getfield 165, 3) := by decide +kernel
theorem d_X_requireRoomForElement_22 : decode Y_X_requireRoomForElement.2.1 22 = .ok (.sipush (300), 3) := by decide +kernel
theorem d_X_requireRoomForElement_25 : decode Y_X_requireRoomForElement.2.1 25 = .ok (.if_icmp .lt (13), 3) := by decide +kernel
theorem d_X_requireRoomForElement_38 : decode Y_X_requireRoomForElement.2.1 38 = .ok (.return_, 1) := by decide +kernel
def F_X_requireRoomForElement_28 (n : Nat) (M : PM) : qO :=
  some (.inr "java/lang/UnsupportedOperationException", nX M)
set_option maxHeartbeats 4000000 in
set_option maxRecDepth 100000 in
theorem E_X_requireRoomForElement_28 {g : qG} {X : qX} {Z : qZ} (hn : 6 ≤ zn Z) (hl : 82 ≤ zl Z) {n : Nat} {M : PM} (h : F_X_requireRoomForElement_28 n M = some (zr Z, zf Z)) : EW Y_X_requireRoomForElement g X Z 28 [] [] M := by
  unfold F_X_requireRoomForElement_28 at h
  obtain ⟨hz, hm⟩ := Prod.mk.inj (Option.some.inj h)
  exact ew_throw (qHd_ne (by decide)) th_X_requireRoomForElement_28 hz.symm hm.symm (Nat.le_trans (Nat.le_of_ble_eq_true rfl) hn) (Nat.le_trans (Nat.le_of_ble_eq_true rfl) hl)
def F_X_requireRoomForElement (n : Nat) (l0 : Nat) (M : PM) : qO :=
  gR 1 M l0 0 (fun v1 =>
  gI 2 M v1 6 (fun v2 =>
  if (16 : Int32) ≤ v2 then
    F_X_requireRoomForElement_28 n M
  else
    gR 1 M l0 0 (fun v4 =>
    gR 2 M v4 0 (fun v5 =>
    gI 3 M v5 7 (fun v6 =>
    if v6 < (300 : Int32) then
      some (.inl none, M)
    else
      F_X_requireRoomForElement_28 n M)))))
set_option maxHeartbeats 4000000 in
set_option maxRecDepth 100000 in
theorem E_X_requireRoomForElement {g : qG} {X : qX} {Z : qZ} (hn : 6 ≤ zn Z) (hl : 82 ≤ zl Z) {n : Nat} {l0 : Nat} {M : PM} (h : F_X_requireRoomForElement n l0 M = some (zr Z, zf Z)) : EW Y_X_requireRoomForElement g X Z 0 [(0, .ref l0)] [] M := by
  unfold F_X_requireRoomForElement at h
  refine ew_aload_n 0 d_X_requireRoomForElement_0 rfl rfl ?_
  obtain ⟨v1, av1, bv1, h⟩ := gR_inv h
  refine ew_gR 1 0 d_X_requireRoomForElement_1 fl_X_12 av1 bv1 ?_
  obtain ⟨v2, av2, bv2, h⟩ := gI_inv h
  refine ew_gI 2 6 d_X_requireRoomForElement_4 fl_X_168 av2 bv2 ?_
  refine ew_bipush (16) d_X_requireRoomForElement_7 (by decide +kernel) ?_
  refine ew_icmp_ge 28 d_X_requireRoomForElement_9 (by decide) (fun c3 => ?_) (fun c3 => ?_)
  · rw [if_pos c3] at h
    exact ew_pick (L' := []) [] rfl (E_X_requireRoomForElement_28 hn hl h)
  · rw [if_neg c3] at h
    refine ew_aload_n 0 d_X_requireRoomForElement_12 rfl rfl ?_
    obtain ⟨v4, av4, bv4, h⟩ := gR_inv h
    refine ew_gR 1 0 d_X_requireRoomForElement_13 fl_X_12 av4 bv4 ?_
    obtain ⟨v5, av5, bv5, h⟩ := gR_inv h
    refine ew_gR 2 0 d_X_requireRoomForElement_16 fl_X_51 av5 bv5 ?_
    obtain ⟨v6, av6, bv6, h⟩ := gI_inv h
    refine ew_gI 3 7 d_X_requireRoomForElement_19 fl_X_165 av6 bv6 ?_
    refine ew_sipush (300) d_X_requireRoomForElement_22 (by decide +kernel) ?_
    refine ew_icmp_lt 38 d_X_requireRoomForElement_25 (by decide) (fun c7 => ?_) (fun c7 => ?_)
    · rw [if_pos c7] at h
      obtain ⟨hz, hm⟩ := Prod.mk.inj (Option.some.inj h)
      exact ew_return d_X_requireRoomForElement_38 rfl hz.symm hm.symm
    · rw [if_neg c7] at h
      exact ew_pick (L' := []) [] rfl (E_X_requireRoomForElement_28 hn hl h)
theorem T_X_requireRoomForElement {n : Nat} {l0 : Nat} {M Mf : PM} {res : qRs} (h : F_X_requireRoomForElement n l0 M = some (res, Mf)) : CT Y_X_requireRoomForElement 6 82 [.ref l0] M res Mf :=
  CT_of (by decide) (Nat.le_of_ble_eq_true rfl) (qHd_ne (by decide)) (fun g X ad0 => E_X_requireRoomForElement (g := g) (X := X) (Z := (ad0, M, res, Mf, 6, 82)) (Nat.le_refl _) (Nat.le_refl _) h)
theorem d_X_word_0 : decode Y_X_word.2.1 0 = .ok (.aload_n 0, 1) := by decide +kernel
theorem d_X_word_1 : decode Y_X_word.2.1 1 = .ok (.invokevirtual 30, 3) := by decide +kernel
theorem d_X_word_4 : decode Y_X_word.2.1 4 = .ok (.aload_n 0, 1) := by decide +kernel
theorem d_X_word_5 : decode Y_X_word.2.1 5 = .ok (.getfield 12, 3) := by decide +kernel
theorem d_X_word_8 : decode Y_X_word.2.1 8 = .ok (.iconst 3, 1) := by decide +kernel
theorem d_X_word_9 : decode Y_X_word.2.1 9 = .ok (.invokevirtual 33, 3) := by decide +kernel
theorem d_X_word_12 : decode Y_X_word.2.1 12 = .ok (.ireturn, 1) := by decide +kernel
def F_X_word (n : Nat) (l0 : Nat) (M : PM) : qO :=
  kO 1 M l0 (
  tV (F_X_requireRoomForElement n l0 M) (fun M1 =>
  gR 1 M1 l0 0 (fun v2 =>
  kO 2 M1 v2 (
  cI (F_XCore_addElement n v2 (3 : Int32) M1) (fun v4 M3 =>
  some (.inl (some (.int v4)), M3))))))
set_option maxHeartbeats 4000000 in
set_option maxRecDepth 100000 in
theorem E_X_word {g : qG} {X : qX} {Z : qZ} (hn : 7 ≤ zn Z) (hl : 102 ≤ zl Z) {n : Nat} {l0 : Nat} {M : PM} (h : F_X_word n l0 M = some (zr Z, zf Z)) : EW Y_X_word g X Z 0 [(0, .ref l0)] [] M := by
  unfold F_X_word at h
  refine ew_aload_n 0 d_X_word_0 rfl rfl ?_
  obtain ⟨kM1, h⟩ := kO_inv h
  rcases Or.symm (tV_inv h) with ⟨EM1, NM1, hM1, h⟩ | ⟨M1, hM1, h⟩
  · exact ew_callVx 1 [] d_X_word_1 cv_X_30 lk_X_30 (T_X_requireRoomForElement hM1) kM1 (Nat.le_trans (Nat.le_of_ble_eq_true rfl) hn) (Nat.le_trans (Nat.le_of_ble_eq_true rfl) hl) (Nat.le_of_ble_eq_true rfl) rfl (ew_leave (qHd_ne (by decide)) (Prod.mk.inj h).1 (Prod.mk.inj h).2)
  refine ew_callV 1 [] d_X_word_1 cv_X_30 (T_X_requireRoomForElement hM1) kM1 (Nat.le_trans (Nat.le_of_ble_eq_true rfl) hn) (Nat.le_trans (Nat.le_of_ble_eq_true rfl) hl) (Nat.le_of_ble_eq_true rfl) rfl rfl ?_
  refine ew_aload_n 0 d_X_word_4 rfl rfl ?_
  obtain ⟨v2, av2, bv2, h⟩ := gR_inv h
  refine ew_gR 1 0 d_X_word_5 fl_X_12 av2 bv2 ?_
  refine ew_iconst (3) d_X_word_8 (by decide) ?_
  obtain ⟨kM3, h⟩ := kO_inv h
  obtain ⟨v4, M3, hM3, h⟩ := cI_inv h
  refine ew_callV 2 [.int (3 : Int32)] d_X_word_9 cv_X_33 (T_XCore_addElement hM3) kM3 (Nat.le_trans (Nat.le_of_ble_eq_true rfl) hn) (Nat.le_trans (Nat.le_of_ble_eq_true rfl) hl) (Nat.le_of_ble_eq_true rfl) rfl rfl ?_
  obtain ⟨hz, hm⟩ := Prod.mk.inj (Option.some.inj h)
  exact ew_ireturn d_X_word_12 rfl hz.symm hm.symm
theorem T_X_word {n : Nat} {l0 : Nat} {M Mf : PM} {res : qRs} (h : F_X_word n l0 M = some (res, Mf)) : CT Y_X_word 7 102 [.ref l0] M res Mf :=
  CT_of (by decide) (Nat.le_of_ble_eq_true rfl) (qHd_ne (by decide)) (fun g X ad0 => E_X_word (g := g) (X := X) (Z := (ad0, M, res, Mf, 7, 102)) (Nat.le_refl _) (Nat.le_refl _) h)
theorem d_X_truth_0 : decode Y_X_truth.2.1 0 = .ok (.aload_n 0, 1) := by decide +kernel
theorem d_X_truth_1 : decode Y_X_truth.2.1 1 = .ok (.invokevirtual 30, 3) := by decide +kernel
theorem d_X_truth_4 : decode Y_X_truth.2.1 4 = .ok (.aload_n 0, 1) := by decide +kernel
theorem d_X_truth_5 : decode Y_X_truth.2.1 5 = .ok (.getfield 12, 3) := by decide +kernel
theorem d_X_truth_8 : decode Y_X_truth.2.1 8 = .ok (.iconst 4, 1) := by decide +kernel
theorem d_X_truth_9 : decode Y_X_truth.2.1 9 = .ok (.invokevirtual 33, 3) := by decide +kernel
theorem d_X_truth_12 : decode Y_X_truth.2.1 12 = .ok (.ireturn, 1) := by decide +kernel
def F_X_truth (n : Nat) (l0 : Nat) (M : PM) : qO :=
  kO 1 M l0 (
  tV (F_X_requireRoomForElement n l0 M) (fun M1 =>
  gR 1 M1 l0 0 (fun v2 =>
  kO 2 M1 v2 (
  cI (F_XCore_addElement n v2 (4 : Int32) M1) (fun v4 M3 =>
  some (.inl (some (.int v4)), M3))))))
set_option maxHeartbeats 4000000 in
set_option maxRecDepth 100000 in
theorem E_X_truth {g : qG} {X : qX} {Z : qZ} (hn : 7 ≤ zn Z) (hl : 102 ≤ zl Z) {n : Nat} {l0 : Nat} {M : PM} (h : F_X_truth n l0 M = some (zr Z, zf Z)) : EW Y_X_truth g X Z 0 [(0, .ref l0)] [] M := by
  unfold F_X_truth at h
  refine ew_aload_n 0 d_X_truth_0 rfl rfl ?_
  obtain ⟨kM1, h⟩ := kO_inv h
  rcases Or.symm (tV_inv h) with ⟨EM1, NM1, hM1, h⟩ | ⟨M1, hM1, h⟩
  · exact ew_callVx 1 [] d_X_truth_1 cv_X_30 lk_X_30 (T_X_requireRoomForElement hM1) kM1 (Nat.le_trans (Nat.le_of_ble_eq_true rfl) hn) (Nat.le_trans (Nat.le_of_ble_eq_true rfl) hl) (Nat.le_of_ble_eq_true rfl) rfl (ew_leave (qHd_ne (by decide)) (Prod.mk.inj h).1 (Prod.mk.inj h).2)
  refine ew_callV 1 [] d_X_truth_1 cv_X_30 (T_X_requireRoomForElement hM1) kM1 (Nat.le_trans (Nat.le_of_ble_eq_true rfl) hn) (Nat.le_trans (Nat.le_of_ble_eq_true rfl) hl) (Nat.le_of_ble_eq_true rfl) rfl rfl ?_
  refine ew_aload_n 0 d_X_truth_4 rfl rfl ?_
  obtain ⟨v2, av2, bv2, h⟩ := gR_inv h
  refine ew_gR 1 0 d_X_truth_5 fl_X_12 av2 bv2 ?_
  refine ew_iconst (4) d_X_truth_8 (by decide) ?_
  obtain ⟨kM3, h⟩ := kO_inv h
  obtain ⟨v4, M3, hM3, h⟩ := cI_inv h
  refine ew_callV 2 [.int (4 : Int32)] d_X_truth_9 cv_X_33 (T_XCore_addElement hM3) kM3 (Nat.le_trans (Nat.le_of_ble_eq_true rfl) hn) (Nat.le_trans (Nat.le_of_ble_eq_true rfl) hl) (Nat.le_of_ble_eq_true rfl) rfl rfl ?_
  obtain ⟨hz, hm⟩ := Prod.mk.inj (Option.some.inj h)
  exact ew_ireturn d_X_truth_12 rfl hz.symm hm.symm
theorem T_X_truth {n : Nat} {l0 : Nat} {M Mf : PM} {res : qRs} (h : F_X_truth n l0 M = some (res, Mf)) : CT Y_X_truth 7 102 [.ref l0] M res Mf :=
  CT_of (by decide) (Nat.le_of_ble_eq_true rfl) (qHd_ne (by decide)) (fun g X ad0 => E_X_truth (g := g) (X := X) (Z := (ad0, M, res, Mf, 7, 102)) (Nat.le_refl _) (Nat.le_refl _) h)
theorem d_X_requireNode_0 : decode Y_X_requireNode.2.1 0 = .ok (.aload_n 0, 1) := by decide +kernel
theorem d_X_requireNode_1 : decode Y_X_requireNode.2.1 1 = .ok (.getfield 12, 3) := by decide +kernel
theorem d_X_requireNode_4 : decode Y_X_requireNode.2.1 4 = .ok (.getfield 51, 3) := by decide +kernel
theorem d_X_requireNode_7 : decode Y_X_requireNode.2.1 7 = .ok (.iload_n 1, 1) := by decide +kernel
theorem d_X_requireNode_8 : decode Y_X_requireNode.2.1 8 = .ok (.invokevirtual 183, 3) := by decide +kernel
theorem d_X_requireNode_11 : decode Y_X_requireNode.2.1 11 = .ok (.ifCond .ne (13), 3) := by decide +kernel
theorem d_X_requireNode_24 : decode Y_X_requireNode.2.1 24 = .ok (.return_, 1) := by decide +kernel
def F_X_requireNode (n : Nat) (l0 : Nat) (l1 : Int32) (M : PM) : qO :=
  gR 1 M l0 0 (fun v1 =>
  gR 2 M v1 0 (fun v2 =>
  kO 3 M v2 (
  cI (F_XNodes_has n v2 l1 M) (fun v4 M3 =>
  if v4 = (0 : Int32) then
    some (.inr "java/lang/IndexOutOfBoundsException", nX M3)
  else
    some (.inl none, M3)))))
set_option maxHeartbeats 4000000 in
set_option maxRecDepth 100000 in
theorem E_X_requireNode {g : qG} {X : qX} {Z : qZ} (hn : 6 ≤ zn Z) (hl : 82 ≤ zl Z) {n : Nat} {l0 : Nat} {l1 : Int32} {M : PM} (h : F_X_requireNode n l0 l1 M = some (zr Z, zf Z)) : EW Y_X_requireNode g X Z 0 [(0, .ref l0), (1, .int l1)] [] M := by
  unfold F_X_requireNode at h
  refine ew_aload_n 0 d_X_requireNode_0 rfl rfl ?_
  obtain ⟨v1, av1, bv1, h⟩ := gR_inv h
  refine ew_gR 1 0 d_X_requireNode_1 fl_X_12 av1 bv1 ?_
  obtain ⟨v2, av2, bv2, h⟩ := gR_inv h
  refine ew_gR 2 0 d_X_requireNode_4 fl_X_51 av2 bv2 ?_
  refine ew_iload_n 1 d_X_requireNode_7 rfl rfl ?_
  obtain ⟨kM3, h⟩ := kO_inv h
  obtain ⟨v4, M3, hM3, h⟩ := cI_inv h
  refine ew_callV 3 [.int l1] d_X_requireNode_8 cv_X_183 (T_XNodes_has hM3) kM3 (Nat.le_trans (Nat.le_of_ble_eq_true rfl) hn) (Nat.le_trans (Nat.le_of_ble_eq_true rfl) hl) (Nat.le_of_ble_eq_true rfl) rfl rfl ?_
  refine ew_if_ne 24 d_X_requireNode_11 (by decide) (fun c5 => ?_) (fun c5 => ?_)
  · rw [if_neg c5] at h
    obtain ⟨hz, hm⟩ := Prod.mk.inj (Option.some.inj h)
    exact ew_return d_X_requireNode_24 rfl hz.symm hm.symm
  · rw [if_pos c5] at h
    obtain ⟨hz, hm⟩ := Prod.mk.inj (Option.some.inj h)
    exact ew_throw (qHd_ne (by decide)) th_X_requireNode_14 hz.symm hm.symm (Nat.le_trans (Nat.le_of_ble_eq_true rfl) hn) (Nat.le_trans (Nat.le_of_ble_eq_true rfl) hl)
theorem T_X_requireNode {n : Nat} {l0 : Nat} {l1 : Int32} {M Mf : PM} {res : qRs} (h : F_X_requireNode n l0 l1 M = some (res, Mf)) : CT Y_X_requireNode 6 82 [.ref l0, .int l1] M res Mf :=
  CT_of (by decide) (Nat.le_of_ble_eq_true rfl) (qHd_ne (by decide)) (fun g X ad0 => E_X_requireNode (g := g) (X := X) (Z := (ad0, M, res, Mf, 6, 82)) (Nat.le_refl _) (Nat.le_refl _) h)
theorem d_X_requireWord_0 : decode Y_X_requireWord.2.1 0 = .ok (.aload_n 0, 1) := by decide +kernel
theorem d_X_requireWord_1 : decode Y_X_requireWord.2.1 1 = .ok (.getfield 12, 3) := by decide +kernel
theorem d_X_requireWord_4 : decode Y_X_requireWord.2.1 4 = .ok (.getfield 51, 3) := by decide +kernel
theorem d_X_requireWord_7 : decode Y_X_requireWord.2.1 7 = .ok (.iload_n 1, 1) := by decide +kernel
theorem d_X_requireWord_8 : decode Y_X_requireWord.2.1 8 = .ok (.invokevirtual 191, 3) := by decide +kernel
theorem d_X_requireWord_11 : decode Y_X_requireWord.2.1 11 = .ok (.ifCond .ne (13), 3) := by decide +kernel
theorem d_X_requireWord_24 : decode Y_X_requireWord.2.1 24 = .ok (.return_, 1) := by decide +kernel
def F_X_requireWord (n : Nat) (l0 : Nat) (l1 : Int32) (M : PM) : qO :=
  gR 1 M l0 0 (fun v1 =>
  gR 2 M v1 0 (fun v2 =>
  kO 3 M v2 (
  cI (F_XNodes_isWord n v2 l1 M) (fun v4 M3 =>
  if v4 = (0 : Int32) then
    some (.inr "java/lang/IllegalArgumentException", nX M3)
  else
    some (.inl none, M3)))))
set_option maxHeartbeats 4000000 in
set_option maxRecDepth 100000 in
theorem E_X_requireWord {g : qG} {X : qX} {Z : qZ} (hn : 6 ≤ zn Z) (hl : 82 ≤ zl Z) {n : Nat} {l0 : Nat} {l1 : Int32} {M : PM} (h : F_X_requireWord n l0 l1 M = some (zr Z, zf Z)) : EW Y_X_requireWord g X Z 0 [(0, .ref l0), (1, .int l1)] [] M := by
  unfold F_X_requireWord at h
  refine ew_aload_n 0 d_X_requireWord_0 rfl rfl ?_
  obtain ⟨v1, av1, bv1, h⟩ := gR_inv h
  refine ew_gR 1 0 d_X_requireWord_1 fl_X_12 av1 bv1 ?_
  obtain ⟨v2, av2, bv2, h⟩ := gR_inv h
  refine ew_gR 2 0 d_X_requireWord_4 fl_X_51 av2 bv2 ?_
  refine ew_iload_n 1 d_X_requireWord_7 rfl rfl ?_
  obtain ⟨kM3, h⟩ := kO_inv h
  obtain ⟨v4, M3, hM3, h⟩ := cI_inv h
  refine ew_callV 3 [.int l1] d_X_requireWord_8 cv_X_191 (T_XNodes_isWord hM3) kM3 (Nat.le_trans (Nat.le_of_ble_eq_true rfl) hn) (Nat.le_trans (Nat.le_of_ble_eq_true rfl) hl) (Nat.le_of_ble_eq_true rfl) rfl rfl ?_
  refine ew_if_ne 24 d_X_requireWord_11 (by decide) (fun c5 => ?_) (fun c5 => ?_)
  · rw [if_neg c5] at h
    obtain ⟨hz, hm⟩ := Prod.mk.inj (Option.some.inj h)
    exact ew_return d_X_requireWord_24 rfl hz.symm hm.symm
  · rw [if_pos c5] at h
    obtain ⟨hz, hm⟩ := Prod.mk.inj (Option.some.inj h)
    exact ew_throw (qHd_ne (by decide)) th_X_requireWord_14 hz.symm hm.symm (Nat.le_trans (Nat.le_of_ble_eq_true rfl) hn) (Nat.le_trans (Nat.le_of_ble_eq_true rfl) hl)
theorem T_X_requireWord {n : Nat} {l0 : Nat} {l1 : Int32} {M Mf : PM} {res : qRs} (h : F_X_requireWord n l0 l1 M = some (res, Mf)) : CT Y_X_requireWord 6 82 [.ref l0, .int l1] M res Mf :=
  CT_of (by decide) (Nat.le_of_ble_eq_true rfl) (qHd_ne (by decide)) (fun g X ad0 => E_X_requireWord (g := g) (X := X) (Z := (ad0, M, res, Mf, 6, 82)) (Nat.le_refl _) (Nat.le_refl _) h)
theorem d_X_landed_0 : decode Y_X_landed.2.1 0 = .ok (.iload_n 0, 1) := by decide +kernel
theorem d_X_landed_1 : decode Y_X_landed.2.1 1 = .ok (.iconst (-1), 1) := by decide +kernel
theorem d_X_landed_2 : decode Y_X_landed.2.1 2 = .ok (.if_icmp .ne (13), 3) := by decide +kernel
theorem d_X_landed_15 : decode Y_X_landed.2.1 15 = .ok (.iload_n 0, 1) := by decide +kernel
theorem d_X_landed_16 : decode Y_X_landed.2.1 16 = .ok (.ireturn, 1) := by decide +kernel
def F_X_landed (n : Nat) (l0 : Int32) (M : PM) : qO :=
  if l0 = (-1 : Int32) then
    some (.inr "java/lang/UnsupportedOperationException", nX M)
  else
    some (.inl (some (.int l0)), M)
set_option maxHeartbeats 4000000 in
set_option maxRecDepth 100000 in
theorem E_X_landed {g : qG} {X : qX} {Z : qZ} (hn : 6 ≤ zn Z) (hl : 82 ≤ zl Z) {n : Nat} {l0 : Int32} {M : PM} (h : F_X_landed n l0 M = some (zr Z, zf Z)) : EW Y_X_landed g X Z 0 [(0, .int l0)] [] M := by
  unfold F_X_landed at h
  refine ew_iload_n 0 d_X_landed_0 rfl rfl ?_
  refine ew_iconst (-1) d_X_landed_1 (by decide) ?_
  refine ew_icmp_ne 15 d_X_landed_2 (by decide) (fun c1 => ?_) (fun c1 => ?_)
  · rw [if_neg c1] at h
    refine ew_iload_n 0 d_X_landed_15 rfl rfl ?_
    obtain ⟨hz, hm⟩ := Prod.mk.inj (Option.some.inj h)
    exact ew_ireturn d_X_landed_16 rfl hz.symm hm.symm
  · rw [if_pos c1] at h
    obtain ⟨hz, hm⟩ := Prod.mk.inj (Option.some.inj h)
    exact ew_throw (qHd_ne (by decide)) th_X_landed_5 hz.symm hm.symm (Nat.le_trans (Nat.le_of_ble_eq_true rfl) hn) (Nat.le_trans (Nat.le_of_ble_eq_true rfl) hl)
theorem T_X_landed {n : Nat} {l0 : Int32} {M Mf : PM} {res : qRs} (h : F_X_landed n l0 M = some (res, Mf)) : CT Y_X_landed 6 82 [.int l0] M res Mf :=
  CT_of (by decide) (Nat.le_of_ble_eq_true rfl) (qHd_ne (by decide)) (fun g X ad0 => E_X_landed (g := g) (X := X) (Z := (ad0, M, res, Mf, 6, 82)) (Nat.le_refl _) (Nat.le_refl _) h)
theorem d_X_apply_0 : decode Y_X_apply.2.1 0 = .ok (.aload_n 0, 1) := by decide +kernel
theorem d_X_apply_1 : decode Y_X_apply.2.1 1 = .ok (.iload_n 2, 1) := by decide +kernel
theorem d_X_apply_2 : decode Y_X_apply.2.1 2 = .ok (.invokevirtual 37, 3) := by decide +kernel
theorem d_X_apply_5 : decode Y_X_apply.2.1 5 = .ok (.iload_n 3, 1) := by decide +kernel
theorem d_X_apply_6 : decode Y_X_apply.2.1 6 = .ok (.iconst (-1), 1) := by decide +kernel
theorem d_X_apply_7 : decode Y_X_apply.2.1 7 = .ok (.if_icmp .eq (8), 3) := by decide +kernel
theorem d_X_apply_10 : decode Y_X_apply.2.1 10 = .ok (.aload_n 0, 1) := by decide +kernel
theorem d_X_apply_11 : decode Y_X_apply.2.1 11 = .ok (.iload_n 3, 1) := by decide +kernel
theorem d_X_apply_12 : decode Y_X_apply.2.1 12 = .ok (.invokevirtual 37, 3) := by decide +kernel
theorem d_X_apply_15 : decode Y_X_apply.2.1 15 = .ok (.iload_n 1, 1) := by decide +kernel
theorem d_X_apply_16 : decode Y_X_apply.2.1 16 = .ok (.ifCond .lt (9), 3) := by decide +kernel
theorem d_X_apply_19 : decode Y_X_apply.2.1 19 = .ok (.iload_n 1, 1) := by decide +kernel
theorem d_X_apply_20 : decode Y_X_apply.2.1 20 = .ok (.bipush (8), 2) := by decide +kernel
theorem d_X_apply_22 : decode Y_X_apply.2.1 22 = .ok (.if_icmp .lt (13), 3) := by decide +kernel
theorem d_X_apply_35 : decode Y_X_apply.2.1 35 = .ok (.aload_n 0, 1) := by decide +kernel
theorem d_X_apply_36 : decode Y_X_apply.2.1 36 = .ok (.iload_n 2, 1) := by decide +kernel
theorem d_X_apply_37 : decode Y_X_apply.2.1 37 = .ok (.invokevirtual 48, 3) := by decide +kernel
theorem d_X_apply_40 : decode Y_X_apply.2.1 40 = .ok (.iload_n 3, 1) := by decide +kernel
theorem d_X_apply_41 : decode Y_X_apply.2.1 41 = .ok (.iconst (-1), 1) := by decide +kernel
theorem d_X_apply_42 : decode Y_X_apply.2.1 42 = .ok (.if_icmp .eq (8), 3) := by decide +kernel
theorem d_X_apply_45 : decode Y_X_apply.2.1 45 = .ok (.aload_n 0, 1) := by decide +kernel
theorem d_X_apply_46 : decode Y_X_apply.2.1 46 = .ok (.iload_n 3, 1) := by decide +kernel
theorem d_X_apply_47 : decode Y_X_apply.2.1 47 = .ok (.invokevirtual 48, 3) := by decide +kernel
theorem d_X_apply_50 : decode Y_X_apply.2.1 50 = .ok (.aload_n 0, 1) := by decide +kernel
theorem d_X_apply_51 : decode Y_X_apply.2.1 51 = .ok (.getfield 12, 3) := by decide +kernel
theorem d_X_apply_54 : decode Y_X_apply.2.1 54 = .ok (.getfield 51, 3) := by decide +kernel
theorem d_X_apply_57 : decode Y_X_apply.2.1 57 = .ok (.iload_n 1, 1) := by decide +kernel
theorem d_X_apply_58 : decode Y_X_apply.2.1 58 = .ok (.iload_n 2, 1) := by decide +kernel
theorem d_X_apply_59 : decode Y_X_apply.2.1 59 = .ok (.iload_n 3, 1) := by decide +kernel
theorem d_X_apply_60 : decode Y_X_apply.2.1 60 = .ok (.invokevirtual 55, 3) := by decide +kernel
theorem d_X_apply_63 : decode Y_X_apply.2.1 63 = .ok (.invokestatic 61, 3) := by decide +kernel
theorem d_X_apply_66 : decode Y_X_apply.2.1 66 = .ok (.ireturn, 1) := by decide +kernel
def F_X_apply_25 (n : Nat) (M : PM) : qO :=
  some (.inr "java/lang/IllegalArgumentException", nX M)
set_option maxHeartbeats 4000000 in
set_option maxRecDepth 100000 in
theorem E_X_apply_25 {g : qG} {X : qX} {Z : qZ} (hn : 7 ≤ zn Z) (hl : 103 ≤ zl Z) {n : Nat} {M : PM} (h : F_X_apply_25 n M = some (zr Z, zf Z)) : EW Y_X_apply g X Z 25 [] [] M := by
  unfold F_X_apply_25 at h
  obtain ⟨hz, hm⟩ := Prod.mk.inj (Option.some.inj h)
  exact ew_throw (qHd_ne (by decide)) th_X_apply_25 hz.symm hm.symm (Nat.le_trans (Nat.le_of_ble_eq_true rfl) hn) (Nat.le_trans (Nat.le_of_ble_eq_true rfl) hl)
def F_X_apply_50 (n : Nat) (l0 : Nat) (l1 : Int32) (l2 : Int32) (l3 : Int32) (M : PM) : qO :=
  gR 1 M l0 0 (fun v1 =>
  gR 2 M v1 0 (fun v2 =>
  kO 3 M v2 (
  cI (F_XNodes_makeApplication n v2 l1 l2 l3 M) (fun v4 M3 =>
  tI (F_X_landed n v4 M3) (fun v6 M5 =>
  some (.inl (some (.int v6)), M5))))))
set_option maxHeartbeats 4000000 in
set_option maxRecDepth 100000 in
theorem E_X_apply_50 {g : qG} {X : qX} {Z : qZ} (hn : 7 ≤ zn Z) (hl : 103 ≤ zl Z) {n : Nat} {l0 : Nat} {l1 : Int32} {l2 : Int32} {l3 : Int32} {M : PM} (h : F_X_apply_50 n l0 l1 l2 l3 M = some (zr Z, zf Z)) : EW Y_X_apply g X Z 50 [(0, .ref l0), (1, .int l1), (2, .int l2), (3, .int l3)] [] M := by
  unfold F_X_apply_50 at h
  refine ew_aload_n 0 d_X_apply_50 rfl rfl ?_
  obtain ⟨v1, av1, bv1, h⟩ := gR_inv h
  refine ew_gR 1 0 d_X_apply_51 fl_X_12 av1 bv1 ?_
  obtain ⟨v2, av2, bv2, h⟩ := gR_inv h
  refine ew_gR 2 0 d_X_apply_54 fl_X_51 av2 bv2 ?_
  refine ew_iload_n 1 d_X_apply_57 rfl rfl ?_
  refine ew_iload_n 2 d_X_apply_58 rfl rfl ?_
  refine ew_iload_n 3 d_X_apply_59 rfl rfl ?_
  obtain ⟨kM3, h⟩ := kO_inv h
  obtain ⟨v4, M3, hM3, h⟩ := cI_inv h
  refine ew_callV 3 [.int l1, .int l2, .int l3] d_X_apply_60 cv_X_55 (T_XNodes_makeApplication hM3) kM3 (Nat.le_trans (Nat.le_of_ble_eq_true rfl) hn) (Nat.le_trans (Nat.le_of_ble_eq_true rfl) hl) (Nat.le_of_ble_eq_true rfl) rfl rfl ?_
  rcases Or.symm (tI_inv h) with ⟨EM5, NM5, hM5, h⟩ | ⟨v6, M5, hM5, h⟩
  · exact ew_callSx [.int v4] d_X_apply_63 cs_X_61 lk_X_61 (T_X_landed hM5) (Nat.le_trans (Nat.le_of_ble_eq_true rfl) hn) (Nat.le_trans (Nat.le_of_ble_eq_true rfl) hl) (Nat.le_of_ble_eq_true rfl) rfl (ew_leave (qHd_ne (by decide)) (Prod.mk.inj h).1 (Prod.mk.inj h).2)
  refine ew_callS [.int v4] d_X_apply_63 cs_X_61 (T_X_landed hM5) (Nat.le_trans (Nat.le_of_ble_eq_true rfl) hn) (Nat.le_trans (Nat.le_of_ble_eq_true rfl) hl) (Nat.le_of_ble_eq_true rfl) rfl rfl ?_
  obtain ⟨hz, hm⟩ := Prod.mk.inj (Option.some.inj h)
  exact ew_ireturn d_X_apply_66 rfl hz.symm hm.symm
def F_X_apply_15 (n : Nat) (l0 : Nat) (l1 : Int32) (l2 : Int32) (l3 : Int32) (M : PM) : qO :=
  if l1 < (0 : Int32) then
    F_X_apply_25 n M
  else
    if l1 < (8 : Int32) then
      kO 1 M l0 (
      tV (F_X_requireWord n l0 l2 M) (fun M3 =>
      if l3 = (-1 : Int32) then
        F_X_apply_50 n l0 l1 l2 l3 M3
      else
        kO 1 M3 l0 (
        tV (F_X_requireWord n l0 l3 M3) (fun M5 =>
        F_X_apply_50 n l0 l1 l2 l3 M5))))
    else
      F_X_apply_25 n M
set_option maxHeartbeats 4000000 in
set_option maxRecDepth 100000 in
theorem E_X_apply_15 {g : qG} {X : qX} {Z : qZ} (hn : 7 ≤ zn Z) (hl : 103 ≤ zl Z) {n : Nat} {l0 : Nat} {l1 : Int32} {l2 : Int32} {l3 : Int32} {M : PM} (h : F_X_apply_15 n l0 l1 l2 l3 M = some (zr Z, zf Z)) : EW Y_X_apply g X Z 15 [(0, .ref l0), (1, .int l1), (2, .int l2), (3, .int l3)] [] M := by
  unfold F_X_apply_15 at h
  refine ew_iload_n 1 d_X_apply_15 rfl rfl ?_
  refine ew_if_lt 25 d_X_apply_16 (by decide) (fun c1 => ?_) (fun c1 => ?_)
  · rw [if_pos c1] at h
    exact ew_pick (L' := []) [] rfl (E_X_apply_25 hn hl h)
  · rw [if_neg c1] at h
    refine ew_iload_n 1 d_X_apply_19 rfl rfl ?_
    refine ew_bipush (8) d_X_apply_20 (by decide +kernel) ?_
    refine ew_icmp_lt 35 d_X_apply_22 (by decide) (fun c2 => ?_) (fun c2 => ?_)
    · rw [if_pos c2] at h
      refine ew_aload_n 0 d_X_apply_35 rfl rfl ?_
      refine ew_iload_n 2 d_X_apply_36 rfl rfl ?_
      obtain ⟨kM3, h⟩ := kO_inv h
      rcases Or.symm (tV_inv h) with ⟨EM3, NM3, hM3, h⟩ | ⟨M3, hM3, h⟩
      · exact ew_callVx 1 [.int l2] d_X_apply_37 cv_X_48 lk_X_48 (T_X_requireWord hM3) kM3 (Nat.le_trans (Nat.le_of_ble_eq_true rfl) hn) (Nat.le_trans (Nat.le_of_ble_eq_true rfl) hl) (Nat.le_of_ble_eq_true rfl) rfl (ew_leave (qHd_ne (by decide)) (Prod.mk.inj h).1 (Prod.mk.inj h).2)
      refine ew_callV 1 [.int l2] d_X_apply_37 cv_X_48 (T_X_requireWord hM3) kM3 (Nat.le_trans (Nat.le_of_ble_eq_true rfl) hn) (Nat.le_trans (Nat.le_of_ble_eq_true rfl) hl) (Nat.le_of_ble_eq_true rfl) rfl rfl ?_
      refine ew_iload_n 3 d_X_apply_40 rfl rfl ?_
      refine ew_iconst (-1) d_X_apply_41 (by decide) ?_
      refine ew_icmp_eq 50 d_X_apply_42 (by decide) (fun c4 => ?_) (fun c4 => ?_)
      · rw [if_pos c4] at h
        exact E_X_apply_50 hn hl h
      · rw [if_neg c4] at h
        refine ew_aload_n 0 d_X_apply_45 rfl rfl ?_
        refine ew_iload_n 3 d_X_apply_46 rfl rfl ?_
        obtain ⟨kM5, h⟩ := kO_inv h
        rcases Or.symm (tV_inv h) with ⟨EM5, NM5, hM5, h⟩ | ⟨M5, hM5, h⟩
        · exact ew_callVx 1 [.int l3] d_X_apply_47 cv_X_48 lk_X_48 (T_X_requireWord hM5) kM5 (Nat.le_trans (Nat.le_of_ble_eq_true rfl) hn) (Nat.le_trans (Nat.le_of_ble_eq_true rfl) hl) (Nat.le_of_ble_eq_true rfl) rfl (ew_leave (qHd_ne (by decide)) (Prod.mk.inj h).1 (Prod.mk.inj h).2)
        refine ew_callV 1 [.int l3] d_X_apply_47 cv_X_48 (T_X_requireWord hM5) kM5 (Nat.le_trans (Nat.le_of_ble_eq_true rfl) hn) (Nat.le_trans (Nat.le_of_ble_eq_true rfl) hl) (Nat.le_of_ble_eq_true rfl) rfl rfl ?_
        exact E_X_apply_50 hn hl h
    · rw [if_neg c2] at h
      exact ew_pick (L' := []) [] rfl (E_X_apply_25 hn hl h)
def F_X_apply (n : Nat) (l0 : Nat) (l1 : Int32) (l2 : Int32) (l3 : Int32) (M : PM) : qO :=
  kO 1 M l0 (
  tV (F_X_requireNode n l0 l2 M) (fun M1 =>
  if l3 = (-1 : Int32) then
    F_X_apply_15 n l0 l1 l2 l3 M1
  else
    kO 1 M1 l0 (
    tV (F_X_requireNode n l0 l3 M1) (fun M3 =>
    F_X_apply_15 n l0 l1 l2 l3 M3))))
set_option maxHeartbeats 4000000 in
set_option maxRecDepth 100000 in
theorem E_X_apply {g : qG} {X : qX} {Z : qZ} (hn : 7 ≤ zn Z) (hl : 103 ≤ zl Z) {n : Nat} {l0 : Nat} {l1 : Int32} {l2 : Int32} {l3 : Int32} {M : PM} (h : F_X_apply n l0 l1 l2 l3 M = some (zr Z, zf Z)) : EW Y_X_apply g X Z 0 [(0, .ref l0), (1, .int l1), (2, .int l2), (3, .int l3)] [] M := by
  unfold F_X_apply at h
  refine ew_aload_n 0 d_X_apply_0 rfl rfl ?_
  refine ew_iload_n 2 d_X_apply_1 rfl rfl ?_
  obtain ⟨kM1, h⟩ := kO_inv h
  rcases Or.symm (tV_inv h) with ⟨EM1, NM1, hM1, h⟩ | ⟨M1, hM1, h⟩
  · exact ew_callVx 1 [.int l2] d_X_apply_2 cv_X_37 lk_X_37 (T_X_requireNode hM1) kM1 (Nat.le_trans (Nat.le_of_ble_eq_true rfl) hn) (Nat.le_trans (Nat.le_of_ble_eq_true rfl) hl) (Nat.le_of_ble_eq_true rfl) rfl (ew_leave (qHd_ne (by decide)) (Prod.mk.inj h).1 (Prod.mk.inj h).2)
  refine ew_callV 1 [.int l2] d_X_apply_2 cv_X_37 (T_X_requireNode hM1) kM1 (Nat.le_trans (Nat.le_of_ble_eq_true rfl) hn) (Nat.le_trans (Nat.le_of_ble_eq_true rfl) hl) (Nat.le_of_ble_eq_true rfl) rfl rfl ?_
  refine ew_iload_n 3 d_X_apply_5 rfl rfl ?_
  refine ew_iconst (-1) d_X_apply_6 (by decide) ?_
  refine ew_icmp_eq 15 d_X_apply_7 (by decide) (fun c2 => ?_) (fun c2 => ?_)
  · rw [if_pos c2] at h
    exact E_X_apply_15 hn hl h
  · rw [if_neg c2] at h
    refine ew_aload_n 0 d_X_apply_10 rfl rfl ?_
    refine ew_iload_n 3 d_X_apply_11 rfl rfl ?_
    obtain ⟨kM3, h⟩ := kO_inv h
    rcases Or.symm (tV_inv h) with ⟨EM3, NM3, hM3, h⟩ | ⟨M3, hM3, h⟩
    · exact ew_callVx 1 [.int l3] d_X_apply_12 cv_X_37 lk_X_37 (T_X_requireNode hM3) kM3 (Nat.le_trans (Nat.le_of_ble_eq_true rfl) hn) (Nat.le_trans (Nat.le_of_ble_eq_true rfl) hl) (Nat.le_of_ble_eq_true rfl) rfl (ew_leave (qHd_ne (by decide)) (Prod.mk.inj h).1 (Prod.mk.inj h).2)
    refine ew_callV 1 [.int l3] d_X_apply_12 cv_X_37 (T_X_requireNode hM3) kM3 (Nat.le_trans (Nat.le_of_ble_eq_true rfl) hn) (Nat.le_trans (Nat.le_of_ble_eq_true rfl) hl) (Nat.le_of_ble_eq_true rfl) rfl rfl ?_
    exact E_X_apply_15 hn hl h
theorem T_X_apply {n : Nat} {l0 : Nat} {l1 : Int32} {l2 : Int32} {l3 : Int32} {M Mf : PM} {res : qRs} (h : F_X_apply n l0 l1 l2 l3 M = some (res, Mf)) : CT Y_X_apply 7 103 [.ref l0, .int l1, .int l2, .int l3] M res Mf :=
  CT_of (by decide) (Nat.le_of_ble_eq_true rfl) (qHd_ne (by decide)) (fun g X ad0 => E_X_apply (g := g) (X := X) (Z := (ad0, M, res, Mf, 7, 103)) (Nat.le_refl _) (Nat.le_refl _) h)
theorem d_X_equal_0 : decode Y_X_equal.2.1 0 = .ok (.aload_n 0, 1) := by decide +kernel
theorem d_X_equal_1 : decode Y_X_equal.2.1 1 = .ok (.iload_n 1, 1) := by decide +kernel
theorem d_X_equal_2 : decode Y_X_equal.2.1 2 = .ok (.invokevirtual 37, 3) := by decide +kernel
theorem d_X_equal_5 : decode Y_X_equal.2.1 5 = .ok (.aload_n 0, 1) := by decide +kernel
theorem d_X_equal_6 : decode Y_X_equal.2.1 6 = .ok (.iload_n 2, 1) := by decide +kernel
theorem d_X_equal_7 : decode Y_X_equal.2.1 7 = .ok (.invokevirtual 37, 3) := by decide +kernel
theorem d_X_equal_10 : decode Y_X_equal.2.1 10 = .ok (.aload_n 0, 1) := by decide +kernel
theorem d_X_equal_11 : decode Y_X_equal.2.1 11 = .ok (.iload_n 1, 1) := by decide +kernel
theorem d_X_equal_12 : decode Y_X_equal.2.1 12 = .ok (.invokevirtual 48, 3) := by decide +kernel
theorem d_X_equal_15 : decode Y_X_equal.2.1 15 = .ok (.aload_n 0, 1) := by decide +kernel
theorem d_X_equal_16 : decode Y_X_equal.2.1 16 = .ok (.iload_n 2, 1) := by decide +kernel
theorem d_X_equal_17 : decode Y_X_equal.2.1 17 = .ok (.invokevirtual 48, 3) := by decide +kernel
theorem d_X_equal_20 : decode Y_X_equal.2.1 20 = .ok (.aload_n 0, 1) := by decide +kernel
theorem d_X_equal_21 : decode Y_X_equal.2.1 21 = .ok (.getfield 12, 3) := by decide +kernel
theorem d_X_equal_24 : decode Y_X_equal.2.1 24 = .ok (.getfield 51, 3) := by decide +kernel
theorem d_X_equal_27 : decode Y_X_equal.2.1 27 = .ok (.iload_n 1, 1) := by decide +kernel
theorem d_X_equal_28 : decode Y_X_equal.2.1 28 = .ok (.iload_n 2, 1) := by decide +kernel
theorem d_X_equal_29 : decode Y_X_equal.2.1 29 = .ok (.invokevirtual 64, 3) := by decide +kernel
theorem d_X_equal_32 : decode Y_X_equal.2.1 32 = .ok (.invokestatic 61, 3) := by decide +kernel
theorem d_X_equal_35 : decode Y_X_equal.2.1 35 = .ok (.ireturn, 1) := by decide +kernel
def F_X_equal (n : Nat) (l0 : Nat) (l1 : Int32) (l2 : Int32) (M : PM) : qO :=
  kO 1 M l0 (
  tV (F_X_requireNode n l0 l1 M) (fun M1 =>
  kO 1 M1 l0 (
  tV (F_X_requireNode n l0 l2 M1) (fun M2 =>
  kO 1 M2 l0 (
  tV (F_X_requireWord n l0 l1 M2) (fun M3 =>
  kO 1 M3 l0 (
  tV (F_X_requireWord n l0 l2 M3) (fun M4 =>
  gR 1 M4 l0 0 (fun v5 =>
  gR 2 M4 v5 0 (fun v6 =>
  kO 3 M4 v6 (
  cI (F_XNodes_makeEquality n v6 l1 l2 M4) (fun v8 M7 =>
  tI (F_X_landed n v8 M7) (fun v10 M9 =>
  some (.inl (some (.int v10)), M9))))))))))))))
set_option maxHeartbeats 4000000 in
set_option maxRecDepth 100000 in
theorem E_X_equal {g : qG} {X : qX} {Z : qZ} (hn : 7 ≤ zn Z) (hl : 103 ≤ zl Z) {n : Nat} {l0 : Nat} {l1 : Int32} {l2 : Int32} {M : PM} (h : F_X_equal n l0 l1 l2 M = some (zr Z, zf Z)) : EW Y_X_equal g X Z 0 [(0, .ref l0), (1, .int l1), (2, .int l2)] [] M := by
  unfold F_X_equal at h
  refine ew_aload_n 0 d_X_equal_0 rfl rfl ?_
  refine ew_iload_n 1 d_X_equal_1 rfl rfl ?_
  obtain ⟨kM1, h⟩ := kO_inv h
  rcases Or.symm (tV_inv h) with ⟨EM1, NM1, hM1, h⟩ | ⟨M1, hM1, h⟩
  · exact ew_callVx 1 [.int l1] d_X_equal_2 cv_X_37 lk_X_37 (T_X_requireNode hM1) kM1 (Nat.le_trans (Nat.le_of_ble_eq_true rfl) hn) (Nat.le_trans (Nat.le_of_ble_eq_true rfl) hl) (Nat.le_of_ble_eq_true rfl) rfl (ew_leave (qHd_ne (by decide)) (Prod.mk.inj h).1 (Prod.mk.inj h).2)
  refine ew_callV 1 [.int l1] d_X_equal_2 cv_X_37 (T_X_requireNode hM1) kM1 (Nat.le_trans (Nat.le_of_ble_eq_true rfl) hn) (Nat.le_trans (Nat.le_of_ble_eq_true rfl) hl) (Nat.le_of_ble_eq_true rfl) rfl rfl ?_
  refine ew_aload_n 0 d_X_equal_5 rfl rfl ?_
  refine ew_iload_n 2 d_X_equal_6 rfl rfl ?_
  obtain ⟨kM2, h⟩ := kO_inv h
  rcases Or.symm (tV_inv h) with ⟨EM2, NM2, hM2, h⟩ | ⟨M2, hM2, h⟩
  · exact ew_callVx 1 [.int l2] d_X_equal_7 cv_X_37 lk_X_37 (T_X_requireNode hM2) kM2 (Nat.le_trans (Nat.le_of_ble_eq_true rfl) hn) (Nat.le_trans (Nat.le_of_ble_eq_true rfl) hl) (Nat.le_of_ble_eq_true rfl) rfl (ew_leave (qHd_ne (by decide)) (Prod.mk.inj h).1 (Prod.mk.inj h).2)
  refine ew_callV 1 [.int l2] d_X_equal_7 cv_X_37 (T_X_requireNode hM2) kM2 (Nat.le_trans (Nat.le_of_ble_eq_true rfl) hn) (Nat.le_trans (Nat.le_of_ble_eq_true rfl) hl) (Nat.le_of_ble_eq_true rfl) rfl rfl ?_
  refine ew_aload_n 0 d_X_equal_10 rfl rfl ?_
  refine ew_iload_n 1 d_X_equal_11 rfl rfl ?_
  obtain ⟨kM3, h⟩ := kO_inv h
  rcases Or.symm (tV_inv h) with ⟨EM3, NM3, hM3, h⟩ | ⟨M3, hM3, h⟩
  · exact ew_callVx 1 [.int l1] d_X_equal_12 cv_X_48 lk_X_48 (T_X_requireWord hM3) kM3 (Nat.le_trans (Nat.le_of_ble_eq_true rfl) hn) (Nat.le_trans (Nat.le_of_ble_eq_true rfl) hl) (Nat.le_of_ble_eq_true rfl) rfl (ew_leave (qHd_ne (by decide)) (Prod.mk.inj h).1 (Prod.mk.inj h).2)
  refine ew_callV 1 [.int l1] d_X_equal_12 cv_X_48 (T_X_requireWord hM3) kM3 (Nat.le_trans (Nat.le_of_ble_eq_true rfl) hn) (Nat.le_trans (Nat.le_of_ble_eq_true rfl) hl) (Nat.le_of_ble_eq_true rfl) rfl rfl ?_
  refine ew_aload_n 0 d_X_equal_15 rfl rfl ?_
  refine ew_iload_n 2 d_X_equal_16 rfl rfl ?_
  obtain ⟨kM4, h⟩ := kO_inv h
  rcases Or.symm (tV_inv h) with ⟨EM4, NM4, hM4, h⟩ | ⟨M4, hM4, h⟩
  · exact ew_callVx 1 [.int l2] d_X_equal_17 cv_X_48 lk_X_48 (T_X_requireWord hM4) kM4 (Nat.le_trans (Nat.le_of_ble_eq_true rfl) hn) (Nat.le_trans (Nat.le_of_ble_eq_true rfl) hl) (Nat.le_of_ble_eq_true rfl) rfl (ew_leave (qHd_ne (by decide)) (Prod.mk.inj h).1 (Prod.mk.inj h).2)
  refine ew_callV 1 [.int l2] d_X_equal_17 cv_X_48 (T_X_requireWord hM4) kM4 (Nat.le_trans (Nat.le_of_ble_eq_true rfl) hn) (Nat.le_trans (Nat.le_of_ble_eq_true rfl) hl) (Nat.le_of_ble_eq_true rfl) rfl rfl ?_
  refine ew_aload_n 0 d_X_equal_20 rfl rfl ?_
  obtain ⟨v5, av5, bv5, h⟩ := gR_inv h
  refine ew_gR 1 0 d_X_equal_21 fl_X_12 av5 bv5 ?_
  obtain ⟨v6, av6, bv6, h⟩ := gR_inv h
  refine ew_gR 2 0 d_X_equal_24 fl_X_51 av6 bv6 ?_
  refine ew_iload_n 1 d_X_equal_27 rfl rfl ?_
  refine ew_iload_n 2 d_X_equal_28 rfl rfl ?_
  obtain ⟨kM7, h⟩ := kO_inv h
  obtain ⟨v8, M7, hM7, h⟩ := cI_inv h
  refine ew_callV 3 [.int l1, .int l2] d_X_equal_29 cv_X_64 (T_XNodes_makeEquality hM7) kM7 (Nat.le_trans (Nat.le_of_ble_eq_true rfl) hn) (Nat.le_trans (Nat.le_of_ble_eq_true rfl) hl) (Nat.le_of_ble_eq_true rfl) rfl rfl ?_
  rcases Or.symm (tI_inv h) with ⟨EM9, NM9, hM9, h⟩ | ⟨v10, M9, hM9, h⟩
  · exact ew_callSx [.int v8] d_X_equal_32 cs_X_61 lk_X_61 (T_X_landed hM9) (Nat.le_trans (Nat.le_of_ble_eq_true rfl) hn) (Nat.le_trans (Nat.le_of_ble_eq_true rfl) hl) (Nat.le_of_ble_eq_true rfl) rfl (ew_leave (qHd_ne (by decide)) (Prod.mk.inj h).1 (Prod.mk.inj h).2)
  refine ew_callS [.int v8] d_X_equal_32 cs_X_61 (T_X_landed hM9) (Nat.le_trans (Nat.le_of_ble_eq_true rfl) hn) (Nat.le_trans (Nat.le_of_ble_eq_true rfl) hl) (Nat.le_of_ble_eq_true rfl) rfl rfl ?_
  obtain ⟨hz, hm⟩ := Prod.mk.inj (Option.some.inj h)
  exact ew_ireturn d_X_equal_35 rfl hz.symm hm.symm
theorem T_X_equal {n : Nat} {l0 : Nat} {l1 : Int32} {l2 : Int32} {M Mf : PM} {res : qRs} (h : F_X_equal n l0 l1 l2 M = some (res, Mf)) : CT Y_X_equal 7 103 [.ref l0, .int l1, .int l2] M res Mf :=
  CT_of (by decide) (Nat.le_of_ble_eq_true rfl) (qHd_ne (by decide)) (fun g X ad0 => E_X_equal (g := g) (X := X) (Z := (ad0, M, res, Mf, 7, 103)) (Nat.le_refl _) (Nat.le_refl _) h)
theorem d_X_requireTruth_0 : decode Y_X_requireTruth.2.1 0 = .ok (.aload_n 0, 1) := by decide +kernel
theorem d_X_requireTruth_1 : decode Y_X_requireTruth.2.1 1 = .ok (.getfield 12, 3) := by decide +kernel
theorem d_X_requireTruth_4 : decode Y_X_requireTruth.2.1 4 = .ok (.getfield 51, 3) := by decide +kernel
theorem d_X_requireTruth_7 : decode Y_X_requireTruth.2.1 7 = .ok (.iload_n 1, 1) := by decide +kernel
theorem d_X_requireTruth_8 : decode Y_X_requireTruth.2.1 8 = .ok (.invokevirtual 191, 3) := by decide +kernel
theorem d_X_requireTruth_11 : decode Y_X_requireTruth.2.1 11 = .ok (.ifCond .eq (13), 3) := by decide +kernel
theorem d_X_requireTruth_24 : decode Y_X_requireTruth.2.1 24 = .ok (.return_, 1) := by decide +kernel
def F_X_requireTruth (n : Nat) (l0 : Nat) (l1 : Int32) (M : PM) : qO :=
  gR 1 M l0 0 (fun v1 =>
  gR 2 M v1 0 (fun v2 =>
  kO 3 M v2 (
  cI (F_XNodes_isWord n v2 l1 M) (fun v4 M3 =>
  if v4 = (0 : Int32) then
    some (.inl none, M3)
  else
    some (.inr "java/lang/IllegalArgumentException", nX M3)))))
set_option maxHeartbeats 4000000 in
set_option maxRecDepth 100000 in
theorem E_X_requireTruth {g : qG} {X : qX} {Z : qZ} (hn : 6 ≤ zn Z) (hl : 82 ≤ zl Z) {n : Nat} {l0 : Nat} {l1 : Int32} {M : PM} (h : F_X_requireTruth n l0 l1 M = some (zr Z, zf Z)) : EW Y_X_requireTruth g X Z 0 [(0, .ref l0), (1, .int l1)] [] M := by
  unfold F_X_requireTruth at h
  refine ew_aload_n 0 d_X_requireTruth_0 rfl rfl ?_
  obtain ⟨v1, av1, bv1, h⟩ := gR_inv h
  refine ew_gR 1 0 d_X_requireTruth_1 fl_X_12 av1 bv1 ?_
  obtain ⟨v2, av2, bv2, h⟩ := gR_inv h
  refine ew_gR 2 0 d_X_requireTruth_4 fl_X_51 av2 bv2 ?_
  refine ew_iload_n 1 d_X_requireTruth_7 rfl rfl ?_
  obtain ⟨kM3, h⟩ := kO_inv h
  obtain ⟨v4, M3, hM3, h⟩ := cI_inv h
  refine ew_callV 3 [.int l1] d_X_requireTruth_8 cv_X_191 (T_XNodes_isWord hM3) kM3 (Nat.le_trans (Nat.le_of_ble_eq_true rfl) hn) (Nat.le_trans (Nat.le_of_ble_eq_true rfl) hl) (Nat.le_of_ble_eq_true rfl) rfl rfl ?_
  refine ew_if_eq 24 d_X_requireTruth_11 (by decide) (fun c5 => ?_) (fun c5 => ?_)
  · rw [if_pos c5] at h
    obtain ⟨hz, hm⟩ := Prod.mk.inj (Option.some.inj h)
    exact ew_return d_X_requireTruth_24 rfl hz.symm hm.symm
  · rw [if_neg c5] at h
    obtain ⟨hz, hm⟩ := Prod.mk.inj (Option.some.inj h)
    exact ew_throw (qHd_ne (by decide)) th_X_requireTruth_14 hz.symm hm.symm (Nat.le_trans (Nat.le_of_ble_eq_true rfl) hn) (Nat.le_trans (Nat.le_of_ble_eq_true rfl) hl)
theorem T_X_requireTruth {n : Nat} {l0 : Nat} {l1 : Int32} {M Mf : PM} {res : qRs} (h : F_X_requireTruth n l0 l1 M = some (res, Mf)) : CT Y_X_requireTruth 6 82 [.ref l0, .int l1] M res Mf :=
  CT_of (by decide) (Nat.le_of_ble_eq_true rfl) (qHd_ne (by decide)) (fun g X ad0 => E_X_requireTruth (g := g) (X := X) (Z := (ad0, M, res, Mf, 6, 82)) (Nat.le_refl _) (Nat.le_refl _) h)
theorem d_X_not_0 : decode Y_X_not.2.1 0 = .ok (.aload_n 0, 1) := by decide +kernel
theorem d_X_not_1 : decode Y_X_not.2.1 1 = .ok (.iload_n 1, 1) := by decide +kernel
theorem d_X_not_2 : decode Y_X_not.2.1 2 = .ok (.invokevirtual 37, 3) := by decide +kernel
theorem d_X_not_5 : decode Y_X_not.2.1 5 = .ok (.aload_n 0, 1) := by decide +kernel
theorem d_X_not_6 : decode Y_X_not.2.1 6 = .ok (.iload_n 1, 1) := by decide +kernel
theorem d_X_not_7 : decode Y_X_not.2.1 7 = .ok (.invokevirtual 68, 3) := by decide +kernel
theorem d_X_not_10 : decode Y_X_not.2.1 10 = .ok (.aload_n 0, 1) := by decide +kernel
theorem d_X_not_11 : decode Y_X_not.2.1 11 = .ok (.getfield 12, 3) := by decide +kernel
theorem d_X_not_14 : decode Y_X_not.2.1 14 = .ok (.getfield 51, 3) := by decide +kernel
theorem d_X_not_17 : decode Y_X_not.2.1 17 = .ok (.iload_n 1, 1) := by decide +kernel
theorem d_X_not_18 : decode Y_X_not.2.1 18 = .ok (.invokevirtual 71, 3) := by decide +kernel
theorem d_X_not_21 : decode Y_X_not.2.1 21 = .ok (.invokestatic 61, 3) := by decide +kernel
theorem d_X_not_24 : decode Y_X_not.2.1 24 = .ok (.ireturn, 1) := by decide +kernel
def F_X_not (n : Nat) (l0 : Nat) (l1 : Int32) (M : PM) : qO :=
  kO 1 M l0 (
  tV (F_X_requireNode n l0 l1 M) (fun M1 =>
  kO 1 M1 l0 (
  tV (F_X_requireTruth n l0 l1 M1) (fun M2 =>
  gR 1 M2 l0 0 (fun v3 =>
  gR 2 M2 v3 0 (fun v4 =>
  kO 3 M2 v4 (
  cI (F_XNodes_makeNot n v4 l1 M2) (fun v6 M5 =>
  tI (F_X_landed n v6 M5) (fun v8 M7 =>
  some (.inl (some (.int v8)), M7))))))))))
set_option maxHeartbeats 4000000 in
set_option maxRecDepth 100000 in
theorem E_X_not {g : qG} {X : qX} {Z : qZ} (hn : 7 ≤ zn Z) (hl : 103 ≤ zl Z) {n : Nat} {l0 : Nat} {l1 : Int32} {M : PM} (h : F_X_not n l0 l1 M = some (zr Z, zf Z)) : EW Y_X_not g X Z 0 [(0, .ref l0), (1, .int l1)] [] M := by
  unfold F_X_not at h
  refine ew_aload_n 0 d_X_not_0 rfl rfl ?_
  refine ew_iload_n 1 d_X_not_1 rfl rfl ?_
  obtain ⟨kM1, h⟩ := kO_inv h
  rcases Or.symm (tV_inv h) with ⟨EM1, NM1, hM1, h⟩ | ⟨M1, hM1, h⟩
  · exact ew_callVx 1 [.int l1] d_X_not_2 cv_X_37 lk_X_37 (T_X_requireNode hM1) kM1 (Nat.le_trans (Nat.le_of_ble_eq_true rfl) hn) (Nat.le_trans (Nat.le_of_ble_eq_true rfl) hl) (Nat.le_of_ble_eq_true rfl) rfl (ew_leave (qHd_ne (by decide)) (Prod.mk.inj h).1 (Prod.mk.inj h).2)
  refine ew_callV 1 [.int l1] d_X_not_2 cv_X_37 (T_X_requireNode hM1) kM1 (Nat.le_trans (Nat.le_of_ble_eq_true rfl) hn) (Nat.le_trans (Nat.le_of_ble_eq_true rfl) hl) (Nat.le_of_ble_eq_true rfl) rfl rfl ?_
  refine ew_aload_n 0 d_X_not_5 rfl rfl ?_
  refine ew_iload_n 1 d_X_not_6 rfl rfl ?_
  obtain ⟨kM2, h⟩ := kO_inv h
  rcases Or.symm (tV_inv h) with ⟨EM2, NM2, hM2, h⟩ | ⟨M2, hM2, h⟩
  · exact ew_callVx 1 [.int l1] d_X_not_7 cv_X_68 lk_X_68 (T_X_requireTruth hM2) kM2 (Nat.le_trans (Nat.le_of_ble_eq_true rfl) hn) (Nat.le_trans (Nat.le_of_ble_eq_true rfl) hl) (Nat.le_of_ble_eq_true rfl) rfl (ew_leave (qHd_ne (by decide)) (Prod.mk.inj h).1 (Prod.mk.inj h).2)
  refine ew_callV 1 [.int l1] d_X_not_7 cv_X_68 (T_X_requireTruth hM2) kM2 (Nat.le_trans (Nat.le_of_ble_eq_true rfl) hn) (Nat.le_trans (Nat.le_of_ble_eq_true rfl) hl) (Nat.le_of_ble_eq_true rfl) rfl rfl ?_
  refine ew_aload_n 0 d_X_not_10 rfl rfl ?_
  obtain ⟨v3, av3, bv3, h⟩ := gR_inv h
  refine ew_gR 1 0 d_X_not_11 fl_X_12 av3 bv3 ?_
  obtain ⟨v4, av4, bv4, h⟩ := gR_inv h
  refine ew_gR 2 0 d_X_not_14 fl_X_51 av4 bv4 ?_
  refine ew_iload_n 1 d_X_not_17 rfl rfl ?_
  obtain ⟨kM5, h⟩ := kO_inv h
  obtain ⟨v6, M5, hM5, h⟩ := cI_inv h
  refine ew_callV 3 [.int l1] d_X_not_18 cv_X_71 (T_XNodes_makeNot hM5) kM5 (Nat.le_trans (Nat.le_of_ble_eq_true rfl) hn) (Nat.le_trans (Nat.le_of_ble_eq_true rfl) hl) (Nat.le_of_ble_eq_true rfl) rfl rfl ?_
  rcases Or.symm (tI_inv h) with ⟨EM7, NM7, hM7, h⟩ | ⟨v8, M7, hM7, h⟩
  · exact ew_callSx [.int v6] d_X_not_21 cs_X_61 lk_X_61 (T_X_landed hM7) (Nat.le_trans (Nat.le_of_ble_eq_true rfl) hn) (Nat.le_trans (Nat.le_of_ble_eq_true rfl) hl) (Nat.le_of_ble_eq_true rfl) rfl (ew_leave (qHd_ne (by decide)) (Prod.mk.inj h).1 (Prod.mk.inj h).2)
  refine ew_callS [.int v6] d_X_not_21 cs_X_61 (T_X_landed hM7) (Nat.le_trans (Nat.le_of_ble_eq_true rfl) hn) (Nat.le_trans (Nat.le_of_ble_eq_true rfl) hl) (Nat.le_of_ble_eq_true rfl) rfl rfl ?_
  obtain ⟨hz, hm⟩ := Prod.mk.inj (Option.some.inj h)
  exact ew_ireturn d_X_not_24 rfl hz.symm hm.symm
theorem T_X_not {n : Nat} {l0 : Nat} {l1 : Int32} {M Mf : PM} {res : qRs} (h : F_X_not n l0 l1 M = some (res, Mf)) : CT Y_X_not 7 103 [.ref l0, .int l1] M res Mf :=
  CT_of (by decide) (Nat.le_of_ble_eq_true rfl) (qHd_ne (by decide)) (fun g X ad0 => E_X_not (g := g) (X := X) (Z := (ad0, M, res, Mf, 7, 103)) (Nat.le_refl _) (Nat.le_refl _) h)
theorem d_X_both_0 : decode Y_X_both.2.1 0 = .ok (.aload_n 0, 1) := by decide +kernel
theorem d_X_both_1 : decode Y_X_both.2.1 1 = .ok (.iload_n 1, 1) := by decide +kernel
theorem d_X_both_2 : decode Y_X_both.2.1 2 = .ok (.invokevirtual 37, 3) := by decide +kernel
theorem d_X_both_5 : decode Y_X_both.2.1 5 = .ok (.aload_n 0, 1) := by decide +kernel
theorem d_X_both_6 : decode Y_X_both.2.1 6 = .ok (.iload_n 2, 1) := by decide +kernel
theorem d_X_both_7 : decode Y_X_both.2.1 7 = .ok (.invokevirtual 37, 3) := by decide +kernel
theorem d_X_both_10 : decode Y_X_both.2.1 10 = .ok (.aload_n 0, 1) := by decide +kernel
theorem d_X_both_11 : decode Y_X_both.2.1 11 = .ok (.iload_n 1, 1) := by decide +kernel
theorem d_X_both_12 : decode Y_X_both.2.1 12 = .ok (.invokevirtual 68, 3) := by decide +kernel
theorem d_X_both_15 : decode Y_X_both.2.1 15 = .ok (.aload_n 0, 1) := by decide +kernel
theorem d_X_both_16 : decode Y_X_both.2.1 16 = .ok (.iload_n 2, 1) := by decide +kernel
theorem d_X_both_17 : decode Y_X_both.2.1 17 = .ok (.invokevirtual 68, 3) := by decide +kernel
theorem d_X_both_20 : decode Y_X_both.2.1 20 = .ok (.aload_n 0, 1) := by decide +kernel
theorem d_X_both_21 : decode Y_X_both.2.1 21 = .ok (.getfield 12, 3) := by decide +kernel
theorem d_X_both_24 : decode Y_X_both.2.1 24 = .ok (.getfield 51, 3) := by decide +kernel
theorem d_X_both_27 : decode Y_X_both.2.1 27 = .ok (.iload_n 1, 1) := by decide +kernel
theorem d_X_both_28 : decode Y_X_both.2.1 28 = .ok (.iload_n 2, 1) := by decide +kernel
theorem d_X_both_29 : decode Y_X_both.2.1 29 = .ok (.invokevirtual 74, 3) := by decide +kernel
theorem d_X_both_32 : decode Y_X_both.2.1 32 = .ok (.invokestatic 61, 3) := by decide +kernel
theorem d_X_both_35 : decode Y_X_both.2.1 35 = .ok (.ireturn, 1) := by decide +kernel
def F_X_both (n : Nat) (l0 : Nat) (l1 : Int32) (l2 : Int32) (M : PM) : qO :=
  kO 1 M l0 (
  tV (F_X_requireNode n l0 l1 M) (fun M1 =>
  kO 1 M1 l0 (
  tV (F_X_requireNode n l0 l2 M1) (fun M2 =>
  kO 1 M2 l0 (
  tV (F_X_requireTruth n l0 l1 M2) (fun M3 =>
  kO 1 M3 l0 (
  tV (F_X_requireTruth n l0 l2 M3) (fun M4 =>
  gR 1 M4 l0 0 (fun v5 =>
  gR 2 M4 v5 0 (fun v6 =>
  kO 3 M4 v6 (
  cI (F_XNodes_makeBoth n v6 l1 l2 M4) (fun v8 M7 =>
  tI (F_X_landed n v8 M7) (fun v10 M9 =>
  some (.inl (some (.int v10)), M9))))))))))))))
set_option maxHeartbeats 4000000 in
set_option maxRecDepth 100000 in
theorem E_X_both {g : qG} {X : qX} {Z : qZ} (hn : 7 ≤ zn Z) (hl : 103 ≤ zl Z) {n : Nat} {l0 : Nat} {l1 : Int32} {l2 : Int32} {M : PM} (h : F_X_both n l0 l1 l2 M = some (zr Z, zf Z)) : EW Y_X_both g X Z 0 [(0, .ref l0), (1, .int l1), (2, .int l2)] [] M := by
  unfold F_X_both at h
  refine ew_aload_n 0 d_X_both_0 rfl rfl ?_
  refine ew_iload_n 1 d_X_both_1 rfl rfl ?_
  obtain ⟨kM1, h⟩ := kO_inv h
  rcases Or.symm (tV_inv h) with ⟨EM1, NM1, hM1, h⟩ | ⟨M1, hM1, h⟩
  · exact ew_callVx 1 [.int l1] d_X_both_2 cv_X_37 lk_X_37 (T_X_requireNode hM1) kM1 (Nat.le_trans (Nat.le_of_ble_eq_true rfl) hn) (Nat.le_trans (Nat.le_of_ble_eq_true rfl) hl) (Nat.le_of_ble_eq_true rfl) rfl (ew_leave (qHd_ne (by decide)) (Prod.mk.inj h).1 (Prod.mk.inj h).2)
  refine ew_callV 1 [.int l1] d_X_both_2 cv_X_37 (T_X_requireNode hM1) kM1 (Nat.le_trans (Nat.le_of_ble_eq_true rfl) hn) (Nat.le_trans (Nat.le_of_ble_eq_true rfl) hl) (Nat.le_of_ble_eq_true rfl) rfl rfl ?_
  refine ew_aload_n 0 d_X_both_5 rfl rfl ?_
  refine ew_iload_n 2 d_X_both_6 rfl rfl ?_
  obtain ⟨kM2, h⟩ := kO_inv h
  rcases Or.symm (tV_inv h) with ⟨EM2, NM2, hM2, h⟩ | ⟨M2, hM2, h⟩
  · exact ew_callVx 1 [.int l2] d_X_both_7 cv_X_37 lk_X_37 (T_X_requireNode hM2) kM2 (Nat.le_trans (Nat.le_of_ble_eq_true rfl) hn) (Nat.le_trans (Nat.le_of_ble_eq_true rfl) hl) (Nat.le_of_ble_eq_true rfl) rfl (ew_leave (qHd_ne (by decide)) (Prod.mk.inj h).1 (Prod.mk.inj h).2)
  refine ew_callV 1 [.int l2] d_X_both_7 cv_X_37 (T_X_requireNode hM2) kM2 (Nat.le_trans (Nat.le_of_ble_eq_true rfl) hn) (Nat.le_trans (Nat.le_of_ble_eq_true rfl) hl) (Nat.le_of_ble_eq_true rfl) rfl rfl ?_
  refine ew_aload_n 0 d_X_both_10 rfl rfl ?_
  refine ew_iload_n 1 d_X_both_11 rfl rfl ?_
  obtain ⟨kM3, h⟩ := kO_inv h
  rcases Or.symm (tV_inv h) with ⟨EM3, NM3, hM3, h⟩ | ⟨M3, hM3, h⟩
  · exact ew_callVx 1 [.int l1] d_X_both_12 cv_X_68 lk_X_68 (T_X_requireTruth hM3) kM3 (Nat.le_trans (Nat.le_of_ble_eq_true rfl) hn) (Nat.le_trans (Nat.le_of_ble_eq_true rfl) hl) (Nat.le_of_ble_eq_true rfl) rfl (ew_leave (qHd_ne (by decide)) (Prod.mk.inj h).1 (Prod.mk.inj h).2)
  refine ew_callV 1 [.int l1] d_X_both_12 cv_X_68 (T_X_requireTruth hM3) kM3 (Nat.le_trans (Nat.le_of_ble_eq_true rfl) hn) (Nat.le_trans (Nat.le_of_ble_eq_true rfl) hl) (Nat.le_of_ble_eq_true rfl) rfl rfl ?_
  refine ew_aload_n 0 d_X_both_15 rfl rfl ?_
  refine ew_iload_n 2 d_X_both_16 rfl rfl ?_
  obtain ⟨kM4, h⟩ := kO_inv h
  rcases Or.symm (tV_inv h) with ⟨EM4, NM4, hM4, h⟩ | ⟨M4, hM4, h⟩
  · exact ew_callVx 1 [.int l2] d_X_both_17 cv_X_68 lk_X_68 (T_X_requireTruth hM4) kM4 (Nat.le_trans (Nat.le_of_ble_eq_true rfl) hn) (Nat.le_trans (Nat.le_of_ble_eq_true rfl) hl) (Nat.le_of_ble_eq_true rfl) rfl (ew_leave (qHd_ne (by decide)) (Prod.mk.inj h).1 (Prod.mk.inj h).2)
  refine ew_callV 1 [.int l2] d_X_both_17 cv_X_68 (T_X_requireTruth hM4) kM4 (Nat.le_trans (Nat.le_of_ble_eq_true rfl) hn) (Nat.le_trans (Nat.le_of_ble_eq_true rfl) hl) (Nat.le_of_ble_eq_true rfl) rfl rfl ?_
  refine ew_aload_n 0 d_X_both_20 rfl rfl ?_
  obtain ⟨v5, av5, bv5, h⟩ := gR_inv h
  refine ew_gR 1 0 d_X_both_21 fl_X_12 av5 bv5 ?_
  obtain ⟨v6, av6, bv6, h⟩ := gR_inv h
  refine ew_gR 2 0 d_X_both_24 fl_X_51 av6 bv6 ?_
  refine ew_iload_n 1 d_X_both_27 rfl rfl ?_
  refine ew_iload_n 2 d_X_both_28 rfl rfl ?_
  obtain ⟨kM7, h⟩ := kO_inv h
  obtain ⟨v8, M7, hM7, h⟩ := cI_inv h
  refine ew_callV 3 [.int l1, .int l2] d_X_both_29 cv_X_74 (T_XNodes_makeBoth hM7) kM7 (Nat.le_trans (Nat.le_of_ble_eq_true rfl) hn) (Nat.le_trans (Nat.le_of_ble_eq_true rfl) hl) (Nat.le_of_ble_eq_true rfl) rfl rfl ?_
  rcases Or.symm (tI_inv h) with ⟨EM9, NM9, hM9, h⟩ | ⟨v10, M9, hM9, h⟩
  · exact ew_callSx [.int v8] d_X_both_32 cs_X_61 lk_X_61 (T_X_landed hM9) (Nat.le_trans (Nat.le_of_ble_eq_true rfl) hn) (Nat.le_trans (Nat.le_of_ble_eq_true rfl) hl) (Nat.le_of_ble_eq_true rfl) rfl (ew_leave (qHd_ne (by decide)) (Prod.mk.inj h).1 (Prod.mk.inj h).2)
  refine ew_callS [.int v8] d_X_both_32 cs_X_61 (T_X_landed hM9) (Nat.le_trans (Nat.le_of_ble_eq_true rfl) hn) (Nat.le_trans (Nat.le_of_ble_eq_true rfl) hl) (Nat.le_of_ble_eq_true rfl) rfl rfl ?_
  obtain ⟨hz, hm⟩ := Prod.mk.inj (Option.some.inj h)
  exact ew_ireturn d_X_both_35 rfl hz.symm hm.symm
theorem T_X_both {n : Nat} {l0 : Nat} {l1 : Int32} {l2 : Int32} {M Mf : PM} {res : qRs} (h : F_X_both n l0 l1 l2 M = some (res, Mf)) : CT Y_X_both 7 103 [.ref l0, .int l1, .int l2] M res Mf :=
  CT_of (by decide) (Nat.le_of_ble_eq_true rfl) (qHd_ne (by decide)) (fun g X ad0 => E_X_both (g := g) (X := X) (Z := (ad0, M, res, Mf, 7, 103)) (Nat.le_refl _) (Nat.le_refl _) h)
theorem d_X_requireSameSort_0 : decode Y_X_requireSameSort.2.1 0 = .ok (.aload_n 0, 1) := by decide +kernel
theorem d_X_requireSameSort_1 : decode Y_X_requireSameSort.2.1 1 = .ok (.getfield 12, 3) := by decide +kernel
theorem d_X_requireSameSort_4 : decode Y_X_requireSameSort.2.1 4 = .ok (.getfield 51, 3) := by decide +kernel
theorem d_X_requireSameSort_7 : decode Y_X_requireSameSort.2.1 7 = .ok (.iload_n 1, 1) := by decide +kernel
theorem d_X_requireSameSort_8 : decode Y_X_requireSameSort.2.1 8 = .ok (.invokevirtual 191, 3) := by decide +kernel
theorem d_X_requireSameSort_11 : decode Y_X_requireSameSort.2.1 11 = .ok (.aload_n 0, 1) := by decide +kernel
theorem d_X_requireSameSort_12 : decode Y_X_requireSameSort.2.1 12 = .ok (.getfield 12, 3) := by decide +kernel
theorem d_X_requireSameSort_15 : decode Y_X_requireSameSort.2.1 15 = .ok (.getfield 51, 3) := by decide +kernel
theorem d_X_requireSameSort_18 : decode Y_X_requireSameSort.2.1 18 = .ok (.iload_n 2, 1) := by decide +kernel
theorem d_X_requireSameSort_19 : decode Y_X_requireSameSort.2.1 19 = .ok (.invokevirtual 191, 3) := by decide +kernel
theorem d_X_requireSameSort_22 : decode Y_X_requireSameSort.2.1 22 = .ok (.if_icmp .eq (13), 3) := by decide +kernel
theorem d_X_requireSameSort_35 : decode Y_X_requireSameSort.2.1 35 = .ok (.return_, 1) := by decide +kernel
def F_X_requireSameSort (n : Nat) (l0 : Nat) (l1 : Int32) (l2 : Int32) (M : PM) : qO :=
  gR 1 M l0 0 (fun v1 =>
  gR 2 M v1 0 (fun v2 =>
  kO 3 M v2 (
  cI (F_XNodes_isWord n v2 l1 M) (fun v4 M3 =>
  gR 1 M3 l0 0 (fun v5 =>
  gR 2 M3 v5 0 (fun v6 =>
  kO 3 M3 v6 (
  cI (F_XNodes_isWord n v6 l2 M3) (fun v8 M7 =>
  if v4 = v8 then
    some (.inl none, M7)
  else
    some (.inr "java/lang/IllegalArgumentException", nX M7)))))))))
set_option maxHeartbeats 4000000 in
set_option maxRecDepth 100000 in
theorem E_X_requireSameSort {g : qG} {X : qX} {Z : qZ} (hn : 6 ≤ zn Z) (hl : 82 ≤ zl Z) {n : Nat} {l0 : Nat} {l1 : Int32} {l2 : Int32} {M : PM} (h : F_X_requireSameSort n l0 l1 l2 M = some (zr Z, zf Z)) : EW Y_X_requireSameSort g X Z 0 [(0, .ref l0), (1, .int l1), (2, .int l2)] [] M := by
  unfold F_X_requireSameSort at h
  refine ew_aload_n 0 d_X_requireSameSort_0 rfl rfl ?_
  obtain ⟨v1, av1, bv1, h⟩ := gR_inv h
  refine ew_gR 1 0 d_X_requireSameSort_1 fl_X_12 av1 bv1 ?_
  obtain ⟨v2, av2, bv2, h⟩ := gR_inv h
  refine ew_gR 2 0 d_X_requireSameSort_4 fl_X_51 av2 bv2 ?_
  refine ew_iload_n 1 d_X_requireSameSort_7 rfl rfl ?_
  obtain ⟨kM3, h⟩ := kO_inv h
  obtain ⟨v4, M3, hM3, h⟩ := cI_inv h
  refine ew_callV 3 [.int l1] d_X_requireSameSort_8 cv_X_191 (T_XNodes_isWord hM3) kM3 (Nat.le_trans (Nat.le_of_ble_eq_true rfl) hn) (Nat.le_trans (Nat.le_of_ble_eq_true rfl) hl) (Nat.le_of_ble_eq_true rfl) rfl rfl ?_
  refine ew_aload_n 0 d_X_requireSameSort_11 rfl rfl ?_
  obtain ⟨v5, av5, bv5, h⟩ := gR_inv h
  refine ew_gR 1 0 d_X_requireSameSort_12 fl_X_12 av5 bv5 ?_
  obtain ⟨v6, av6, bv6, h⟩ := gR_inv h
  refine ew_gR 2 0 d_X_requireSameSort_15 fl_X_51 av6 bv6 ?_
  refine ew_iload_n 2 d_X_requireSameSort_18 rfl rfl ?_
  obtain ⟨kM7, h⟩ := kO_inv h
  obtain ⟨v8, M7, hM7, h⟩ := cI_inv h
  refine ew_callV 3 [.int l2] d_X_requireSameSort_19 cv_X_191 (T_XNodes_isWord hM7) kM7 (Nat.le_trans (Nat.le_of_ble_eq_true rfl) hn) (Nat.le_trans (Nat.le_of_ble_eq_true rfl) hl) (Nat.le_of_ble_eq_true rfl) rfl rfl ?_
  refine ew_icmp_eq 35 d_X_requireSameSort_22 (by decide) (fun c9 => ?_) (fun c9 => ?_)
  · rw [if_pos c9] at h
    obtain ⟨hz, hm⟩ := Prod.mk.inj (Option.some.inj h)
    exact ew_return d_X_requireSameSort_35 rfl hz.symm hm.symm
  · rw [if_neg c9] at h
    obtain ⟨hz, hm⟩ := Prod.mk.inj (Option.some.inj h)
    exact ew_throw (qHd_ne (by decide)) th_X_requireSameSort_25 hz.symm hm.symm (Nat.le_trans (Nat.le_of_ble_eq_true rfl) hn) (Nat.le_trans (Nat.le_of_ble_eq_true rfl) hl)
theorem T_X_requireSameSort {n : Nat} {l0 : Nat} {l1 : Int32} {l2 : Int32} {M Mf : PM} {res : qRs} (h : F_X_requireSameSort n l0 l1 l2 M = some (res, Mf)) : CT Y_X_requireSameSort 6 82 [.ref l0, .int l1, .int l2] M res Mf :=
  CT_of (by decide) (Nat.le_of_ble_eq_true rfl) (qHd_ne (by decide)) (fun g X ad0 => E_X_requireSameSort (g := g) (X := X) (Z := (ad0, M, res, Mf, 6, 82)) (Nat.le_refl _) (Nat.le_refl _) h)
theorem d_X_choice_0 : decode Y_X_choice.2.1 0 = .ok (.aload_n 0, 1) := by decide +kernel
theorem d_X_choice_1 : decode Y_X_choice.2.1 1 = .ok (.iload_n 1, 1) := by decide +kernel
theorem d_X_choice_2 : decode Y_X_choice.2.1 2 = .ok (.invokevirtual 37, 3) := by decide +kernel
theorem d_X_choice_5 : decode Y_X_choice.2.1 5 = .ok (.aload_n 0, 1) := by decide +kernel
theorem d_X_choice_6 : decode Y_X_choice.2.1 6 = .ok (.iload_n 2, 1) := by decide +kernel
theorem d_X_choice_7 : decode Y_X_choice.2.1 7 = .ok (.invokevirtual 37, 3) := by decide +kernel
theorem d_X_choice_10 : decode Y_X_choice.2.1 10 = .ok (.aload_n 0, 1) := by decide +kernel
theorem d_X_choice_11 : decode Y_X_choice.2.1 11 = .ok (.iload_n 3, 1) := by decide +kernel
theorem d_X_choice_12 : decode Y_X_choice.2.1 12 = .ok (.invokevirtual 37, 3) := by decide +kernel
theorem d_X_choice_15 : decode Y_X_choice.2.1 15 = .ok (.aload_n 0, 1) := by decide +kernel
theorem d_X_choice_16 : decode Y_X_choice.2.1 16 = .ok (.iload_n 1, 1) := by decide +kernel
theorem d_X_choice_17 : decode Y_X_choice.2.1 17 = .ok (.invokevirtual 68, 3) := by decide +kernel
theorem d_X_choice_20 : decode Y_X_choice.2.1 20 = .ok (.aload_n 0, 1) := by decide +kernel
theorem d_X_choice_21 : decode Y_X_choice.2.1 21 = .ok (.iload_n 2, 1) := by decide +kernel
theorem d_X_choice_22 : decode Y_X_choice.2.1 22 = .ok (.iload_n 3, 1) := by decide +kernel
theorem d_X_choice_23 : decode Y_X_choice.2.1 23 = .ok (.invokevirtual 77, 3) := by decide +kernel
theorem d_X_choice_26 : decode Y_X_choice.2.1 26 = .ok (.aload_n 0, 1) := by decide +kernel
theorem d_X_choice_27 : decode Y_X_choice.2.1 27 = .ok (.getfield 12, 3) := by decide +kernel
theorem d_X_choice_30 : decode Y_X_choice.2.1 30 = .ok (.getfield 51, 3) := by decide +kernel
theorem d_X_choice_33 : decode Y_X_choice.2.1 33 = .ok (.iload_n 1, 1) := by decide +kernel
theorem d_X_choice_34 : decode Y_X_choice.2.1 34 = .ok (.iload_n 2, 1) := by decide +kernel
theorem d_X_choice_35 : decode Y_X_choice.2.1 35 = .ok (.iload_n 3, 1) := by decide +kernel
theorem d_X_choice_36 : decode Y_X_choice.2.1 36 = .ok (.invokevirtual 81, 3) := by decide +kernel
theorem d_X_choice_39 : decode Y_X_choice.2.1 39 = .ok (.invokestatic 61, 3) := by decide +kernel
theorem d_X_choice_42 : decode Y_X_choice.2.1 42 = .ok (.ireturn, 1) := by decide +kernel
def F_X_choice (n : Nat) (l0 : Nat) (l1 : Int32) (l2 : Int32) (l3 : Int32) (M : PM) : qO :=
  kO 1 M l0 (
  tV (F_X_requireNode n l0 l1 M) (fun M1 =>
  kO 1 M1 l0 (
  tV (F_X_requireNode n l0 l2 M1) (fun M2 =>
  kO 1 M2 l0 (
  tV (F_X_requireNode n l0 l3 M2) (fun M3 =>
  kO 1 M3 l0 (
  tV (F_X_requireTruth n l0 l1 M3) (fun M4 =>
  kO 1 M4 l0 (
  tV (F_X_requireSameSort n l0 l2 l3 M4) (fun M5 =>
  gR 1 M5 l0 0 (fun v6 =>
  gR 2 M5 v6 0 (fun v7 =>
  kO 3 M5 v7 (
  cI (F_XNodes_makeChoice n v7 l1 l2 l3 M5) (fun v9 M8 =>
  tI (F_X_landed n v9 M8) (fun v11 M10 =>
  some (.inl (some (.int v11)), M10))))))))))))))))
set_option maxHeartbeats 4000000 in
set_option maxRecDepth 100000 in
theorem E_X_choice {g : qG} {X : qX} {Z : qZ} (hn : 7 ≤ zn Z) (hl : 104 ≤ zl Z) {n : Nat} {l0 : Nat} {l1 : Int32} {l2 : Int32} {l3 : Int32} {M : PM} (h : F_X_choice n l0 l1 l2 l3 M = some (zr Z, zf Z)) : EW Y_X_choice g X Z 0 [(0, .ref l0), (1, .int l1), (2, .int l2), (3, .int l3)] [] M := by
  unfold F_X_choice at h
  refine ew_aload_n 0 d_X_choice_0 rfl rfl ?_
  refine ew_iload_n 1 d_X_choice_1 rfl rfl ?_
  obtain ⟨kM1, h⟩ := kO_inv h
  rcases Or.symm (tV_inv h) with ⟨EM1, NM1, hM1, h⟩ | ⟨M1, hM1, h⟩
  · exact ew_callVx 1 [.int l1] d_X_choice_2 cv_X_37 lk_X_37 (T_X_requireNode hM1) kM1 (Nat.le_trans (Nat.le_of_ble_eq_true rfl) hn) (Nat.le_trans (Nat.le_of_ble_eq_true rfl) hl) (Nat.le_of_ble_eq_true rfl) rfl (ew_leave (qHd_ne (by decide)) (Prod.mk.inj h).1 (Prod.mk.inj h).2)
  refine ew_callV 1 [.int l1] d_X_choice_2 cv_X_37 (T_X_requireNode hM1) kM1 (Nat.le_trans (Nat.le_of_ble_eq_true rfl) hn) (Nat.le_trans (Nat.le_of_ble_eq_true rfl) hl) (Nat.le_of_ble_eq_true rfl) rfl rfl ?_
  refine ew_aload_n 0 d_X_choice_5 rfl rfl ?_
  refine ew_iload_n 2 d_X_choice_6 rfl rfl ?_
  obtain ⟨kM2, h⟩ := kO_inv h
  rcases Or.symm (tV_inv h) with ⟨EM2, NM2, hM2, h⟩ | ⟨M2, hM2, h⟩
  · exact ew_callVx 1 [.int l2] d_X_choice_7 cv_X_37 lk_X_37 (T_X_requireNode hM2) kM2 (Nat.le_trans (Nat.le_of_ble_eq_true rfl) hn) (Nat.le_trans (Nat.le_of_ble_eq_true rfl) hl) (Nat.le_of_ble_eq_true rfl) rfl (ew_leave (qHd_ne (by decide)) (Prod.mk.inj h).1 (Prod.mk.inj h).2)
  refine ew_callV 1 [.int l2] d_X_choice_7 cv_X_37 (T_X_requireNode hM2) kM2 (Nat.le_trans (Nat.le_of_ble_eq_true rfl) hn) (Nat.le_trans (Nat.le_of_ble_eq_true rfl) hl) (Nat.le_of_ble_eq_true rfl) rfl rfl ?_
  refine ew_aload_n 0 d_X_choice_10 rfl rfl ?_
  refine ew_iload_n 3 d_X_choice_11 rfl rfl ?_
  obtain ⟨kM3, h⟩ := kO_inv h
  rcases Or.symm (tV_inv h) with ⟨EM3, NM3, hM3, h⟩ | ⟨M3, hM3, h⟩
  · exact ew_callVx 1 [.int l3] d_X_choice_12 cv_X_37 lk_X_37 (T_X_requireNode hM3) kM3 (Nat.le_trans (Nat.le_of_ble_eq_true rfl) hn) (Nat.le_trans (Nat.le_of_ble_eq_true rfl) hl) (Nat.le_of_ble_eq_true rfl) rfl (ew_leave (qHd_ne (by decide)) (Prod.mk.inj h).1 (Prod.mk.inj h).2)
  refine ew_callV 1 [.int l3] d_X_choice_12 cv_X_37 (T_X_requireNode hM3) kM3 (Nat.le_trans (Nat.le_of_ble_eq_true rfl) hn) (Nat.le_trans (Nat.le_of_ble_eq_true rfl) hl) (Nat.le_of_ble_eq_true rfl) rfl rfl ?_
  refine ew_aload_n 0 d_X_choice_15 rfl rfl ?_
  refine ew_iload_n 1 d_X_choice_16 rfl rfl ?_
  obtain ⟨kM4, h⟩ := kO_inv h
  rcases Or.symm (tV_inv h) with ⟨EM4, NM4, hM4, h⟩ | ⟨M4, hM4, h⟩
  · exact ew_callVx 1 [.int l1] d_X_choice_17 cv_X_68 lk_X_68 (T_X_requireTruth hM4) kM4 (Nat.le_trans (Nat.le_of_ble_eq_true rfl) hn) (Nat.le_trans (Nat.le_of_ble_eq_true rfl) hl) (Nat.le_of_ble_eq_true rfl) rfl (ew_leave (qHd_ne (by decide)) (Prod.mk.inj h).1 (Prod.mk.inj h).2)
  refine ew_callV 1 [.int l1] d_X_choice_17 cv_X_68 (T_X_requireTruth hM4) kM4 (Nat.le_trans (Nat.le_of_ble_eq_true rfl) hn) (Nat.le_trans (Nat.le_of_ble_eq_true rfl) hl) (Nat.le_of_ble_eq_true rfl) rfl rfl ?_
  refine ew_aload_n 0 d_X_choice_20 rfl rfl ?_
  refine ew_iload_n 2 d_X_choice_21 rfl rfl ?_
  refine ew_iload_n 3 d_X_choice_22 rfl rfl ?_
  obtain ⟨kM5, h⟩ := kO_inv h
  rcases Or.symm (tV_inv h) with ⟨EM5, NM5, hM5, h⟩ | ⟨M5, hM5, h⟩
  · exact ew_callVx 1 [.int l2, .int l3] d_X_choice_23 cv_X_77 lk_X_77 (T_X_requireSameSort hM5) kM5 (Nat.le_trans (Nat.le_of_ble_eq_true rfl) hn) (Nat.le_trans (Nat.le_of_ble_eq_true rfl) hl) (Nat.le_of_ble_eq_true rfl) rfl (ew_leave (qHd_ne (by decide)) (Prod.mk.inj h).1 (Prod.mk.inj h).2)
  refine ew_callV 1 [.int l2, .int l3] d_X_choice_23 cv_X_77 (T_X_requireSameSort hM5) kM5 (Nat.le_trans (Nat.le_of_ble_eq_true rfl) hn) (Nat.le_trans (Nat.le_of_ble_eq_true rfl) hl) (Nat.le_of_ble_eq_true rfl) rfl rfl ?_
  refine ew_aload_n 0 d_X_choice_26 rfl rfl ?_
  obtain ⟨v6, av6, bv6, h⟩ := gR_inv h
  refine ew_gR 1 0 d_X_choice_27 fl_X_12 av6 bv6 ?_
  obtain ⟨v7, av7, bv7, h⟩ := gR_inv h
  refine ew_gR 2 0 d_X_choice_30 fl_X_51 av7 bv7 ?_
  refine ew_iload_n 1 d_X_choice_33 rfl rfl ?_
  refine ew_iload_n 2 d_X_choice_34 rfl rfl ?_
  refine ew_iload_n 3 d_X_choice_35 rfl rfl ?_
  obtain ⟨kM8, h⟩ := kO_inv h
  obtain ⟨v9, M8, hM8, h⟩ := cI_inv h
  refine ew_callV 3 [.int l1, .int l2, .int l3] d_X_choice_36 cv_X_81 (T_XNodes_makeChoice hM8) kM8 (Nat.le_trans (Nat.le_of_ble_eq_true rfl) hn) (Nat.le_trans (Nat.le_of_ble_eq_true rfl) hl) (Nat.le_of_ble_eq_true rfl) rfl rfl ?_
  rcases Or.symm (tI_inv h) with ⟨EM10, NM10, hM10, h⟩ | ⟨v11, M10, hM10, h⟩
  · exact ew_callSx [.int v9] d_X_choice_39 cs_X_61 lk_X_61 (T_X_landed hM10) (Nat.le_trans (Nat.le_of_ble_eq_true rfl) hn) (Nat.le_trans (Nat.le_of_ble_eq_true rfl) hl) (Nat.le_of_ble_eq_true rfl) rfl (ew_leave (qHd_ne (by decide)) (Prod.mk.inj h).1 (Prod.mk.inj h).2)
  refine ew_callS [.int v9] d_X_choice_39 cs_X_61 (T_X_landed hM10) (Nat.le_trans (Nat.le_of_ble_eq_true rfl) hn) (Nat.le_trans (Nat.le_of_ble_eq_true rfl) hl) (Nat.le_of_ble_eq_true rfl) rfl rfl ?_
  obtain ⟨hz, hm⟩ := Prod.mk.inj (Option.some.inj h)
  exact ew_ireturn d_X_choice_42 rfl hz.symm hm.symm
theorem T_X_choice {n : Nat} {l0 : Nat} {l1 : Int32} {l2 : Int32} {l3 : Int32} {M Mf : PM} {res : qRs} (h : F_X_choice n l0 l1 l2 l3 M = some (res, Mf)) : CT Y_X_choice 7 104 [.ref l0, .int l1, .int l2, .int l3] M res Mf :=
  CT_of (by decide) (Nat.le_of_ble_eq_true rfl) (qHd_ne (by decide)) (fun g X ad0 => E_X_choice (g := g) (X := X) (Z := (ad0, M, res, Mf, 7, 104)) (Nat.le_refl _) (Nat.le_refl _) h)
theorem d_X_requireElement_0 : decode Y_X_requireElement.2.1 0 = .ok (.iload_n 1, 1) := by decide +kernel
theorem d_X_requireElement_1 : decode Y_X_requireElement.2.1 1 = .ok (.ifCond .lt (14), 3) := by decide +kernel
theorem d_X_requireElement_4 : decode Y_X_requireElement.2.1 4 = .ok (.iload_n 1, 1) := by decide +kernel
theorem d_X_requireElement_5 : decode Y_X_requireElement.2.1 5 = .ok (.aload_n 0, 1) := by decide +kernel
theorem d_X_requireElement_6 : decode Y_X_requireElement.2.1 6 = .ok (.getfield 12, 3) := by decide +kernel
theorem d_X_requireElement_9 : decode Y_X_requireElement.2.1 9 = .ok (.getfield 168, 3) := by decide +kernel
theorem d_X_requireElement_12 : decode Y_X_requireElement.2.1 12 = .ok (.if_icmp .lt (13), 3) := by decide +kernel
theorem d_X_requireElement_25 : decode Y_X_requireElement.2.1 25 = .ok (.return_, 1) := by decide +kernel
def F_X_requireElement_15 (n : Nat) (M : PM) : qO :=
  some (.inr "java/lang/IndexOutOfBoundsException", nX M)
set_option maxHeartbeats 4000000 in
set_option maxRecDepth 100000 in
theorem E_X_requireElement_15 {g : qG} {X : qX} {Z : qZ} (hn : 6 ≤ zn Z) (hl : 82 ≤ zl Z) {n : Nat} {M : PM} (h : F_X_requireElement_15 n M = some (zr Z, zf Z)) : EW Y_X_requireElement g X Z 15 [] [] M := by
  unfold F_X_requireElement_15 at h
  obtain ⟨hz, hm⟩ := Prod.mk.inj (Option.some.inj h)
  exact ew_throw (qHd_ne (by decide)) th_X_requireElement_15 hz.symm hm.symm (Nat.le_trans (Nat.le_of_ble_eq_true rfl) hn) (Nat.le_trans (Nat.le_of_ble_eq_true rfl) hl)
def F_X_requireElement (n : Nat) (l0 : Nat) (l1 : Int32) (M : PM) : qO :=
  if l1 < (0 : Int32) then
    F_X_requireElement_15 n M
  else
    gR 1 M l0 0 (fun v2 =>
    gI 2 M v2 6 (fun v3 =>
    if l1 < v3 then
      some (.inl none, M)
    else
      F_X_requireElement_15 n M))
set_option maxHeartbeats 4000000 in
set_option maxRecDepth 100000 in
theorem E_X_requireElement {g : qG} {X : qX} {Z : qZ} (hn : 6 ≤ zn Z) (hl : 82 ≤ zl Z) {n : Nat} {l0 : Nat} {l1 : Int32} {M : PM} (h : F_X_requireElement n l0 l1 M = some (zr Z, zf Z)) : EW Y_X_requireElement g X Z 0 [(0, .ref l0), (1, .int l1)] [] M := by
  unfold F_X_requireElement at h
  refine ew_iload_n 1 d_X_requireElement_0 rfl rfl ?_
  refine ew_if_lt 15 d_X_requireElement_1 (by decide) (fun c1 => ?_) (fun c1 => ?_)
  · rw [if_pos c1] at h
    exact ew_pick (L' := []) [] rfl (E_X_requireElement_15 hn hl h)
  · rw [if_neg c1] at h
    refine ew_iload_n 1 d_X_requireElement_4 rfl rfl ?_
    refine ew_aload_n 0 d_X_requireElement_5 rfl rfl ?_
    obtain ⟨v2, av2, bv2, h⟩ := gR_inv h
    refine ew_gR 1 0 d_X_requireElement_6 fl_X_12 av2 bv2 ?_
    obtain ⟨v3, av3, bv3, h⟩ := gI_inv h
    refine ew_gI 2 6 d_X_requireElement_9 fl_X_168 av3 bv3 ?_
    refine ew_icmp_lt 25 d_X_requireElement_12 (by decide) (fun c4 => ?_) (fun c4 => ?_)
    · rw [if_pos c4] at h
      obtain ⟨hz, hm⟩ := Prod.mk.inj (Option.some.inj h)
      exact ew_return d_X_requireElement_25 rfl hz.symm hm.symm
    · rw [if_neg c4] at h
      exact ew_pick (L' := []) [] rfl (E_X_requireElement_15 hn hl h)
theorem T_X_requireElement {n : Nat} {l0 : Nat} {l1 : Int32} {M Mf : PM} {res : qRs} (h : F_X_requireElement n l0 l1 M = some (res, Mf)) : CT Y_X_requireElement 6 82 [.ref l0, .int l1] M res Mf :=
  CT_of (by decide) (Nat.le_of_ble_eq_true rfl) (qHd_ne (by decide)) (fun g X ad0 => E_X_requireElement (g := g) (X := X) (Z := (ad0, M, res, Mf, 6, 82)) (Nat.le_refl _) (Nat.le_refl _) h)
theorem d_X_next_0 : decode Y_X_next.2.1 0 = .ok (.aload_n 0, 1) := by decide +kernel
theorem d_X_next_1 : decode Y_X_next.2.1 1 = .ok (.iload_n 1, 1) := by decide +kernel
theorem d_X_next_2 : decode Y_X_next.2.1 2 = .ok (.invokevirtual 84, 3) := by decide +kernel
theorem d_X_next_5 : decode Y_X_next.2.1 5 = .ok (.aload_n 0, 1) := by decide +kernel
theorem d_X_next_6 : decode Y_X_next.2.1 6 = .ok (.iload_n 2, 1) := by decide +kernel
theorem d_X_next_7 : decode Y_X_next.2.1 7 = .ok (.invokevirtual 37, 3) := by decide +kernel
theorem d_X_next_10 : decode Y_X_next.2.1 10 = .ok (.aload_n 0, 1) := by decide +kernel
theorem d_X_next_11 : decode Y_X_next.2.1 11 = .ok (.aload_n 0, 1) := by decide +kernel
theorem d_X_next_12 : decode Y_X_next.2.1 12 = .ok (.getfield 12, 3) := by decide +kernel
theorem d_X_next_15 : decode Y_X_next.2.1 15 = .ok (.getfield 87, 3) := by decide +kernel
theorem d_X_next_18 : decode Y_X_next.2.1 18 = .ok (.iload_n 1, 1) := by decide +kernel
theorem d_X_next_19 : decode Y_X_next.2.1 19 = .ok (.iaload, 1) := by decide +kernel
theorem d_X_next_20 : decode Y_X_next.2.1 20 = .ok (.iload_n 2, 1) := by decide +kernel
theorem d_X_next_21 : decode Y_X_next.2.1 21 = .ok (.invokevirtual 77, 3) := by decide +kernel
theorem d_X_next_24 : decode Y_X_next.2.1 24 = .ok (.aload_n 0, 1) := by decide +kernel
theorem d_X_next_25 : decode Y_X_next.2.1 25 = .ok (.getfield 12, 3) := by decide +kernel
theorem d_X_next_28 : decode Y_X_next.2.1 28 = .ok (.iload_n 1, 1) := by decide +kernel
theorem d_X_next_29 : decode Y_X_next.2.1 29 = .ok (.iload_n 2, 1) := by decide +kernel
theorem d_X_next_30 : decode Y_X_next.2.1 30 = .ok (.invokevirtual 91, 3) := by decide +kernel
theorem d_X_next_33 : decode Y_X_next.2.1 33 = .ok (.ireturn, 1) := by decide +kernel
def F_X_next (n : Nat) (l0 : Nat) (l1 : Int32) (l2 : Int32) (M : PM) : qO :=
  kO 1 M l0 (
  tV (F_X_requireElement n l0 l1 M) (fun M1 =>
  kO 1 M1 l0 (
  tV (F_X_requireNode n l0 l2 M1) (fun M2 =>
  gR 1 M2 l0 0 (fun v3 =>
  gR 2 M2 v3 1 (fun v4 =>
  lI M2 v4 l1 (fun v5 =>
  kO 1 M2 l0 (
  tV (F_X_requireSameSort n l0 v5 l2 M2) (fun M6 =>
  gR 1 M6 l0 0 (fun v7 =>
  kO 2 M6 v7 (
  cI (F_XCore_tellNext n v7 l1 l2 M6) (fun v9 M8 =>
  rZ v9 M8))))))))))))
set_option maxHeartbeats 4000000 in
set_option maxRecDepth 100000 in
theorem E_X_next {g : qG} {X : qX} {Z : qZ} (hn : 7 ≤ zn Z) (hl : 104 ≤ zl Z) {n : Nat} {l0 : Nat} {l1 : Int32} {l2 : Int32} {M : PM} (h : F_X_next n l0 l1 l2 M = some (zr Z, zf Z)) : EW Y_X_next g X Z 0 [(0, .ref l0), (1, .int l1), (2, .int l2)] [] M := by
  unfold F_X_next at h
  refine ew_aload_n 0 d_X_next_0 rfl rfl ?_
  refine ew_iload_n 1 d_X_next_1 rfl rfl ?_
  obtain ⟨kM1, h⟩ := kO_inv h
  rcases Or.symm (tV_inv h) with ⟨EM1, NM1, hM1, h⟩ | ⟨M1, hM1, h⟩
  · exact ew_callVx 1 [.int l1] d_X_next_2 cv_X_84 lk_X_84 (T_X_requireElement hM1) kM1 (Nat.le_trans (Nat.le_of_ble_eq_true rfl) hn) (Nat.le_trans (Nat.le_of_ble_eq_true rfl) hl) (Nat.le_of_ble_eq_true rfl) rfl (ew_leave (qHd_ne (by decide)) (Prod.mk.inj h).1 (Prod.mk.inj h).2)
  refine ew_callV 1 [.int l1] d_X_next_2 cv_X_84 (T_X_requireElement hM1) kM1 (Nat.le_trans (Nat.le_of_ble_eq_true rfl) hn) (Nat.le_trans (Nat.le_of_ble_eq_true rfl) hl) (Nat.le_of_ble_eq_true rfl) rfl rfl ?_
  refine ew_aload_n 0 d_X_next_5 rfl rfl ?_
  refine ew_iload_n 2 d_X_next_6 rfl rfl ?_
  obtain ⟨kM2, h⟩ := kO_inv h
  rcases Or.symm (tV_inv h) with ⟨EM2, NM2, hM2, h⟩ | ⟨M2, hM2, h⟩
  · exact ew_callVx 1 [.int l2] d_X_next_7 cv_X_37 lk_X_37 (T_X_requireNode hM2) kM2 (Nat.le_trans (Nat.le_of_ble_eq_true rfl) hn) (Nat.le_trans (Nat.le_of_ble_eq_true rfl) hl) (Nat.le_of_ble_eq_true rfl) rfl (ew_leave (qHd_ne (by decide)) (Prod.mk.inj h).1 (Prod.mk.inj h).2)
  refine ew_callV 1 [.int l2] d_X_next_7 cv_X_37 (T_X_requireNode hM2) kM2 (Nat.le_trans (Nat.le_of_ble_eq_true rfl) hn) (Nat.le_trans (Nat.le_of_ble_eq_true rfl) hl) (Nat.le_of_ble_eq_true rfl) rfl rfl ?_
  refine ew_aload_n 0 d_X_next_10 rfl rfl ?_
  refine ew_aload_n 0 d_X_next_11 rfl rfl ?_
  obtain ⟨v3, av3, bv3, h⟩ := gR_inv h
  refine ew_gR 1 0 d_X_next_12 fl_X_12 av3 bv3 ?_
  obtain ⟨v4, av4, bv4, h⟩ := gR_inv h
  refine ew_gR 2 1 d_X_next_15 fl_X_87 av4 bv4 ?_
  refine ew_iload_n 1 d_X_next_18 rfl rfl ?_
  obtain ⟨v5, av5, bv5, cv5, ev5, h⟩ := lI_inv h
  refine ew_lI d_X_next_19 av5 bv5 cv5 ev5 ?_
  refine ew_iload_n 2 d_X_next_20 rfl rfl ?_
  obtain ⟨kM6, h⟩ := kO_inv h
  rcases Or.symm (tV_inv h) with ⟨EM6, NM6, hM6, h⟩ | ⟨M6, hM6, h⟩
  · exact ew_callVx 1 [.int v5, .int l2] d_X_next_21 cv_X_77 lk_X_77 (T_X_requireSameSort hM6) kM6 (Nat.le_trans (Nat.le_of_ble_eq_true rfl) hn) (Nat.le_trans (Nat.le_of_ble_eq_true rfl) hl) (Nat.le_of_ble_eq_true rfl) rfl (ew_leave (qHd_ne (by decide)) (Prod.mk.inj h).1 (Prod.mk.inj h).2)
  refine ew_callV 1 [.int v5, .int l2] d_X_next_21 cv_X_77 (T_X_requireSameSort hM6) kM6 (Nat.le_trans (Nat.le_of_ble_eq_true rfl) hn) (Nat.le_trans (Nat.le_of_ble_eq_true rfl) hl) (Nat.le_of_ble_eq_true rfl) rfl rfl ?_
  refine ew_aload_n 0 d_X_next_24 rfl rfl ?_
  obtain ⟨v7, av7, bv7, h⟩ := gR_inv h
  refine ew_gR 1 0 d_X_next_25 fl_X_12 av7 bv7 ?_
  refine ew_iload_n 1 d_X_next_28 rfl rfl ?_
  refine ew_iload_n 2 d_X_next_29 rfl rfl ?_
  obtain ⟨kM8, h⟩ := kO_inv h
  obtain ⟨v9, M8, hM8, h⟩ := cI_inv h
  refine ew_callV 2 [.int l1, .int l2] d_X_next_30 cv_X_91 (T_XCore_tellNext hM8) kM8 (Nat.le_trans (Nat.le_of_ble_eq_true rfl) hn) (Nat.le_trans (Nat.le_of_ble_eq_true rfl) hl) (Nat.le_of_ble_eq_true rfl) rfl rfl ?_
  obtain ⟨hb, h⟩ := rZ_inv h
  obtain ⟨hz, hm⟩ := Prod.mk.inj (Option.some.inj h)
  exact ew_zreturn d_X_next_33 rfl hz.symm hm.symm hb
theorem T_X_next {n : Nat} {l0 : Nat} {l1 : Int32} {l2 : Int32} {M Mf : PM} {res : qRs} (h : F_X_next n l0 l1 l2 M = some (res, Mf)) : CT Y_X_next 7 104 [.ref l0, .int l1, .int l2] M res Mf :=
  CT_of (by decide) (Nat.le_of_ble_eq_true rfl) (qHd_ne (by decide)) (fun g X ad0 => E_X_next (g := g) (X := X) (Z := (ad0, M, res, Mf, 7, 104)) (Nat.le_refl _) (Nat.le_refl _) h)
theorem d_X_requireNoFetch_0 : decode Y_X_requireNoFetch.2.1 0 = .ok (.aload_n 0, 1) := by decide +kernel
theorem d_X_requireNoFetch_1 : decode Y_X_requireNoFetch.2.1 1 = .ok (.getfield 12, 3) := by decide +kernel
theorem d_X_requireNoFetch_4 : decode Y_X_requireNoFetch.2.1 4 = .ok (.iload_n 1, 1) := by decide +kernel
theorem d_X_requireNoFetch_5 : decode Y_X_requireNoFetch.2.1 5 = .ok (.invokevirtual 200, 3) := by decide +kernel
theorem d_X_requireNoFetch_8 : decode Y_X_requireNoFetch.2.1 8 = .ok (.ifCond .eq (13), 3) := by decide +kernel
theorem d_X_requireNoFetch_21 : decode Y_X_requireNoFetch.2.1 21 = .ok (.return_, 1) := by decide +kernel
def F_X_requireNoFetch (n : Nat) (l0 : Nat) (l1 : Int32) (M : PM) : qO :=
  gR 1 M l0 0 (fun v1 =>
  kO 2 M v1 (
  cI (F_XCore_hasFetch n v1 l1 M) (fun v3 M2 =>
  if v3 = (0 : Int32) then
    some (.inl none, M2)
  else
    some (.inr "java/lang/IllegalArgumentException", nX M2))))
set_option maxHeartbeats 4000000 in
set_option maxRecDepth 100000 in
theorem E_X_requireNoFetch {g : qG} {X : qX} {Z : qZ} (hn : 6 ≤ zn Z) (hl : 86 ≤ zl Z) {n : Nat} {l0 : Nat} {l1 : Int32} {M : PM} (h : F_X_requireNoFetch n l0 l1 M = some (zr Z, zf Z)) : EW Y_X_requireNoFetch g X Z 0 [(0, .ref l0), (1, .int l1)] [] M := by
  unfold F_X_requireNoFetch at h
  refine ew_aload_n 0 d_X_requireNoFetch_0 rfl rfl ?_
  obtain ⟨v1, av1, bv1, h⟩ := gR_inv h
  refine ew_gR 1 0 d_X_requireNoFetch_1 fl_X_12 av1 bv1 ?_
  refine ew_iload_n 1 d_X_requireNoFetch_4 rfl rfl ?_
  obtain ⟨kM2, h⟩ := kO_inv h
  obtain ⟨v3, M2, hM2, h⟩ := cI_inv h
  refine ew_callV 2 [.int l1] d_X_requireNoFetch_5 cv_X_200 (T_XCore_hasFetch hM2) kM2 (Nat.le_trans (Nat.le_of_ble_eq_true rfl) hn) (Nat.le_trans (Nat.le_of_ble_eq_true rfl) hl) (Nat.le_of_ble_eq_true rfl) rfl rfl ?_
  refine ew_if_eq 21 d_X_requireNoFetch_8 (by decide) (fun c4 => ?_) (fun c4 => ?_)
  · rw [if_pos c4] at h
    obtain ⟨hz, hm⟩ := Prod.mk.inj (Option.some.inj h)
    exact ew_return d_X_requireNoFetch_21 rfl hz.symm hm.symm
  · rw [if_neg c4] at h
    obtain ⟨hz, hm⟩ := Prod.mk.inj (Option.some.inj h)
    exact ew_throw (qHd_ne (by decide)) th_X_requireNoFetch_11 hz.symm hm.symm (Nat.le_trans (Nat.le_of_ble_eq_true rfl) hn) (Nat.le_trans (Nat.le_of_ble_eq_true rfl) hl)
theorem T_X_requireNoFetch {n : Nat} {l0 : Nat} {l1 : Int32} {M Mf : PM} {res : qRs} (h : F_X_requireNoFetch n l0 l1 M = some (res, Mf)) : CT Y_X_requireNoFetch 6 86 [.ref l0, .int l1] M res Mf :=
  CT_of (by decide) (Nat.le_of_ble_eq_true rfl) (qHd_ne (by decide)) (fun g X ad0 => E_X_requireNoFetch (g := g) (X := X) (Z := (ad0, M, res, Mf, 6, 86)) (Nat.le_refl _) (Nat.le_refl _) h)
theorem d_X_plain_0 : decode Y_X_plain.2.1 0 = .ok (.aload_n 0, 1) := by decide +kernel
theorem d_X_plain_1 : decode Y_X_plain.2.1 1 = .ok (.iload_n 1, 1) := by decide +kernel
theorem d_X_plain_2 : decode Y_X_plain.2.1 2 = .ok (.invokevirtual 84, 3) := by decide +kernel
theorem d_X_plain_5 : decode Y_X_plain.2.1 5 = .ok (.aload_n 0, 1) := by decide +kernel
theorem d_X_plain_6 : decode Y_X_plain.2.1 6 = .ok (.iload_n 2, 1) := by decide +kernel
theorem d_X_plain_7 : decode Y_X_plain.2.1 7 = .ok (.invokevirtual 37, 3) := by decide +kernel
theorem d_X_plain_10 : decode Y_X_plain.2.1 10 = .ok (.aload_n 0, 1) := by decide +kernel
theorem d_X_plain_11 : decode Y_X_plain.2.1 11 = .ok (.aload_n 0, 1) := by decide +kernel
theorem d_X_plain_12 : decode Y_X_plain.2.1 12 = .ok (.getfield 12, 3) := by decide +kernel
theorem d_X_plain_15 : decode Y_X_plain.2.1 15 = .ok (.getfield 87, 3) := by decide +kernel
theorem d_X_plain_18 : decode Y_X_plain.2.1 18 = .ok (.iload_n 1, 1) := by decide +kernel
theorem d_X_plain_19 : decode Y_X_plain.2.1 19 = .ok (.iaload, 1) := by decide +kernel
theorem d_X_plain_20 : decode Y_X_plain.2.1 20 = .ok (.iload_n 2, 1) := by decide +kernel
theorem d_X_plain_21 : decode Y_X_plain.2.1 21 = .ok (.invokevirtual 77, 3) := by decide +kernel
theorem d_X_plain_24 : decode Y_X_plain.2.1 24 = .ok (.aload_n 0, 1) := by decide +kernel
theorem d_X_plain_25 : decode Y_X_plain.2.1 25 = .ok (.iload_n 2, 1) := by decide +kernel
theorem d_X_plain_26 : decode Y_X_plain.2.1 26 = .ok (.invokevirtual 95, 3) := by decide +kernel
theorem d_X_plain_29 : decode Y_X_plain.2.1 29 = .ok (.aload_n 0, 1) := by decide +kernel
theorem d_X_plain_30 : decode Y_X_plain.2.1 30 = .ok (.getfield 12, 3) := by decide +kernel
theorem d_X_plain_33 : decode Y_X_plain.2.1 33 = .ok (.iload_n 1, 1) := by decide +kernel
theorem d_X_plain_34 : decode Y_X_plain.2.1 34 = .ok (.iload_n 2, 1) := by decide +kernel
theorem d_X_plain_35 : decode Y_X_plain.2.1 35 = .ok (.invokevirtual 98, 3) := by decide +kernel
theorem d_X_plain_38 : decode Y_X_plain.2.1 38 = .ok (.ireturn, 1) := by decide +kernel
def F_X_plain (n : Nat) (l0 : Nat) (l1 : Int32) (l2 : Int32) (M : PM) : qO :=
  kO 1 M l0 (
  tV (F_X_requireElement n l0 l1 M) (fun M1 =>
  kO 1 M1 l0 (
  tV (F_X_requireNode n l0 l2 M1) (fun M2 =>
  gR 1 M2 l0 0 (fun v3 =>
  gR 2 M2 v3 1 (fun v4 =>
  lI M2 v4 l1 (fun v5 =>
  kO 1 M2 l0 (
  tV (F_X_requireSameSort n l0 v5 l2 M2) (fun M6 =>
  kO 1 M6 l0 (
  tV (F_X_requireNoFetch n l0 l2 M6) (fun M7 =>
  gR 1 M7 l0 0 (fun v8 =>
  kO 2 M7 v8 (
  cI (F_XCore_tellPlain n v8 l1 l2 M7) (fun v10 M9 =>
  rZ v10 M9))))))))))))))
set_option maxHeartbeats 4000000 in
set_option maxRecDepth 100000 in
theorem E_X_plain {g : qG} {X : qX} {Z : qZ} (hn : 7 ≤ zn Z) (hl : 107 ≤ zl Z) {n : Nat} {l0 : Nat} {l1 : Int32} {l2 : Int32} {M : PM} (h : F_X_plain n l0 l1 l2 M = some (zr Z, zf Z)) : EW Y_X_plain g X Z 0 [(0, .ref l0), (1, .int l1), (2, .int l2)] [] M := by
  unfold F_X_plain at h
  refine ew_aload_n 0 d_X_plain_0 rfl rfl ?_
  refine ew_iload_n 1 d_X_plain_1 rfl rfl ?_
  obtain ⟨kM1, h⟩ := kO_inv h
  rcases Or.symm (tV_inv h) with ⟨EM1, NM1, hM1, h⟩ | ⟨M1, hM1, h⟩
  · exact ew_callVx 1 [.int l1] d_X_plain_2 cv_X_84 lk_X_84 (T_X_requireElement hM1) kM1 (Nat.le_trans (Nat.le_of_ble_eq_true rfl) hn) (Nat.le_trans (Nat.le_of_ble_eq_true rfl) hl) (Nat.le_of_ble_eq_true rfl) rfl (ew_leave (qHd_ne (by decide)) (Prod.mk.inj h).1 (Prod.mk.inj h).2)
  refine ew_callV 1 [.int l1] d_X_plain_2 cv_X_84 (T_X_requireElement hM1) kM1 (Nat.le_trans (Nat.le_of_ble_eq_true rfl) hn) (Nat.le_trans (Nat.le_of_ble_eq_true rfl) hl) (Nat.le_of_ble_eq_true rfl) rfl rfl ?_
  refine ew_aload_n 0 d_X_plain_5 rfl rfl ?_
  refine ew_iload_n 2 d_X_plain_6 rfl rfl ?_
  obtain ⟨kM2, h⟩ := kO_inv h
  rcases Or.symm (tV_inv h) with ⟨EM2, NM2, hM2, h⟩ | ⟨M2, hM2, h⟩
  · exact ew_callVx 1 [.int l2] d_X_plain_7 cv_X_37 lk_X_37 (T_X_requireNode hM2) kM2 (Nat.le_trans (Nat.le_of_ble_eq_true rfl) hn) (Nat.le_trans (Nat.le_of_ble_eq_true rfl) hl) (Nat.le_of_ble_eq_true rfl) rfl (ew_leave (qHd_ne (by decide)) (Prod.mk.inj h).1 (Prod.mk.inj h).2)
  refine ew_callV 1 [.int l2] d_X_plain_7 cv_X_37 (T_X_requireNode hM2) kM2 (Nat.le_trans (Nat.le_of_ble_eq_true rfl) hn) (Nat.le_trans (Nat.le_of_ble_eq_true rfl) hl) (Nat.le_of_ble_eq_true rfl) rfl rfl ?_
  refine ew_aload_n 0 d_X_plain_10 rfl rfl ?_
  refine ew_aload_n 0 d_X_plain_11 rfl rfl ?_
  obtain ⟨v3, av3, bv3, h⟩ := gR_inv h
  refine ew_gR 1 0 d_X_plain_12 fl_X_12 av3 bv3 ?_
  obtain ⟨v4, av4, bv4, h⟩ := gR_inv h
  refine ew_gR 2 1 d_X_plain_15 fl_X_87 av4 bv4 ?_
  refine ew_iload_n 1 d_X_plain_18 rfl rfl ?_
  obtain ⟨v5, av5, bv5, cv5, ev5, h⟩ := lI_inv h
  refine ew_lI d_X_plain_19 av5 bv5 cv5 ev5 ?_
  refine ew_iload_n 2 d_X_plain_20 rfl rfl ?_
  obtain ⟨kM6, h⟩ := kO_inv h
  rcases Or.symm (tV_inv h) with ⟨EM6, NM6, hM6, h⟩ | ⟨M6, hM6, h⟩
  · exact ew_callVx 1 [.int v5, .int l2] d_X_plain_21 cv_X_77 lk_X_77 (T_X_requireSameSort hM6) kM6 (Nat.le_trans (Nat.le_of_ble_eq_true rfl) hn) (Nat.le_trans (Nat.le_of_ble_eq_true rfl) hl) (Nat.le_of_ble_eq_true rfl) rfl (ew_leave (qHd_ne (by decide)) (Prod.mk.inj h).1 (Prod.mk.inj h).2)
  refine ew_callV 1 [.int v5, .int l2] d_X_plain_21 cv_X_77 (T_X_requireSameSort hM6) kM6 (Nat.le_trans (Nat.le_of_ble_eq_true rfl) hn) (Nat.le_trans (Nat.le_of_ble_eq_true rfl) hl) (Nat.le_of_ble_eq_true rfl) rfl rfl ?_
  refine ew_aload_n 0 d_X_plain_24 rfl rfl ?_
  refine ew_iload_n 2 d_X_plain_25 rfl rfl ?_
  obtain ⟨kM7, h⟩ := kO_inv h
  rcases Or.symm (tV_inv h) with ⟨EM7, NM7, hM7, h⟩ | ⟨M7, hM7, h⟩
  · exact ew_callVx 1 [.int l2] d_X_plain_26 cv_X_95 lk_X_95 (T_X_requireNoFetch hM7) kM7 (Nat.le_trans (Nat.le_of_ble_eq_true rfl) hn) (Nat.le_trans (Nat.le_of_ble_eq_true rfl) hl) (Nat.le_of_ble_eq_true rfl) rfl (ew_leave (qHd_ne (by decide)) (Prod.mk.inj h).1 (Prod.mk.inj h).2)
  refine ew_callV 1 [.int l2] d_X_plain_26 cv_X_95 (T_X_requireNoFetch hM7) kM7 (Nat.le_trans (Nat.le_of_ble_eq_true rfl) hn) (Nat.le_trans (Nat.le_of_ble_eq_true rfl) hl) (Nat.le_of_ble_eq_true rfl) rfl rfl ?_
  refine ew_aload_n 0 d_X_plain_29 rfl rfl ?_
  obtain ⟨v8, av8, bv8, h⟩ := gR_inv h
  refine ew_gR 1 0 d_X_plain_30 fl_X_12 av8 bv8 ?_
  refine ew_iload_n 1 d_X_plain_33 rfl rfl ?_
  refine ew_iload_n 2 d_X_plain_34 rfl rfl ?_
  obtain ⟨kM9, h⟩ := kO_inv h
  obtain ⟨v10, M9, hM9, h⟩ := cI_inv h
  refine ew_callV 2 [.int l1, .int l2] d_X_plain_35 cv_X_98 (T_XCore_tellPlain hM9) kM9 (Nat.le_trans (Nat.le_of_ble_eq_true rfl) hn) (Nat.le_trans (Nat.le_of_ble_eq_true rfl) hl) (Nat.le_of_ble_eq_true rfl) rfl rfl ?_
  obtain ⟨hb, h⟩ := rZ_inv h
  obtain ⟨hz, hm⟩ := Prod.mk.inj (Option.some.inj h)
  exact ew_zreturn d_X_plain_38 rfl hz.symm hm.symm hb
theorem T_X_plain {n : Nat} {l0 : Nat} {l1 : Int32} {l2 : Int32} {M Mf : PM} {res : qRs} (h : F_X_plain n l0 l1 l2 M = some (res, Mf)) : CT Y_X_plain 7 107 [.ref l0, .int l1, .int l2] M res Mf :=
  CT_of (by decide) (Nat.le_of_ble_eq_true rfl) (qHd_ne (by decide)) (fun g X ad0 => E_X_plain (g := g) (X := X) (Z := (ad0, M, res, Mf, 7, 107)) (Nat.le_refl _) (Nat.le_refl _) h)
theorem d_X_invariant_0 : decode Y_X_invariant.2.1 0 = .ok (.aload_n 0, 1) := by decide +kernel
theorem d_X_invariant_1 : decode Y_X_invariant.2.1 1 = .ok (.iload_n 1, 1) := by decide +kernel
theorem d_X_invariant_2 : decode Y_X_invariant.2.1 2 = .ok (.invokevirtual 37, 3) := by decide +kernel
theorem d_X_invariant_5 : decode Y_X_invariant.2.1 5 = .ok (.aload_n 0, 1) := by decide +kernel
theorem d_X_invariant_6 : decode Y_X_invariant.2.1 6 = .ok (.iload_n 1, 1) := by decide +kernel
theorem d_X_invariant_7 : decode Y_X_invariant.2.1 7 = .ok (.invokevirtual 68, 3) := by decide +kernel
theorem d_X_invariant_10 : decode Y_X_invariant.2.1 10 = .ok (.aload_n 0, 1) := by decide +kernel
theorem d_X_invariant_11 : decode Y_X_invariant.2.1 11 = .ok (.iload_n 1, 1) := by decide +kernel
theorem d_X_invariant_12 : decode Y_X_invariant.2.1 12 = .ok (.invokevirtual 95, 3) := by decide +kernel
theorem d_X_invariant_15 : decode Y_X_invariant.2.1 15 = .ok (.aload_n 0, 1) := by decide +kernel
theorem d_X_invariant_16 : decode Y_X_invariant.2.1 16 = .ok (.getfield 12, 3) := by decide +kernel
theorem d_X_invariant_19 : decode Y_X_invariant.2.1 19 = .ok (.getfield 101, 3) := by decide +kernel
theorem d_X_invariant_22 : decode Y_X_invariant.2.1 22 = .ok (.bipush (8), 2) := by decide +kernel
theorem d_X_invariant_24 : decode Y_X_invariant.2.1 24 = .ok (.if_icmp .lt (13), 3) := by decide +kernel
theorem d_X_invariant_37 : decode Y_X_invariant.2.1 37 = .ok (.aload_n 0, 1) := by decide +kernel
theorem d_X_invariant_38 : decode Y_X_invariant.2.1 38 = .ok (.getfield 12, 3) := by decide +kernel
theorem d_X_invariant_41 : decode Y_X_invariant.2.1 41 = .ok (.iload_n 1, 1) := by decide +kernel
theorem d_X_invariant_42 : decode Y_X_invariant.2.1 42 = .ok (.invokevirtual 110, 3) := by decide +kernel
theorem d_X_invariant_45 : decode Y_X_invariant.2.1 45 = .ok (.ireturn, 1) := by decide +kernel
def F_X_invariant (n : Nat) (l0 : Nat) (l1 : Int32) (M : PM) : qO :=
  kO 1 M l0 (
  tV (F_X_requireNode n l0 l1 M) (fun M1 =>
  kO 1 M1 l0 (
  tV (F_X_requireTruth n l0 l1 M1) (fun M2 =>
  kO 1 M2 l0 (
  tV (F_X_requireNoFetch n l0 l1 M2) (fun M3 =>
  gR 1 M3 l0 0 (fun v4 =>
  gI 2 M3 v4 8 (fun v5 =>
  if v5 < (8 : Int32) then
    gR 1 M3 l0 0 (fun v7 =>
    kO 2 M3 v7 (
    cI (F_XCore_addInvariant n v7 l1 M3) (fun v9 M8 =>
    some (.inl (some (.int v9)), M8))))
  else
    some (.inr "java/lang/IllegalStateException", nX M3)))))))))
set_option maxHeartbeats 4000000 in
set_option maxRecDepth 100000 in
theorem E_X_invariant {g : qG} {X : qX} {Z : qZ} (hn : 7 ≤ zn Z) (hl : 107 ≤ zl Z) {n : Nat} {l0 : Nat} {l1 : Int32} {M : PM} (h : F_X_invariant n l0 l1 M = some (zr Z, zf Z)) : EW Y_X_invariant g X Z 0 [(0, .ref l0), (1, .int l1)] [] M := by
  unfold F_X_invariant at h
  refine ew_aload_n 0 d_X_invariant_0 rfl rfl ?_
  refine ew_iload_n 1 d_X_invariant_1 rfl rfl ?_
  obtain ⟨kM1, h⟩ := kO_inv h
  rcases Or.symm (tV_inv h) with ⟨EM1, NM1, hM1, h⟩ | ⟨M1, hM1, h⟩
  · exact ew_callVx 1 [.int l1] d_X_invariant_2 cv_X_37 lk_X_37 (T_X_requireNode hM1) kM1 (Nat.le_trans (Nat.le_of_ble_eq_true rfl) hn) (Nat.le_trans (Nat.le_of_ble_eq_true rfl) hl) (Nat.le_of_ble_eq_true rfl) rfl (ew_leave (qHd_ne (by decide)) (Prod.mk.inj h).1 (Prod.mk.inj h).2)
  refine ew_callV 1 [.int l1] d_X_invariant_2 cv_X_37 (T_X_requireNode hM1) kM1 (Nat.le_trans (Nat.le_of_ble_eq_true rfl) hn) (Nat.le_trans (Nat.le_of_ble_eq_true rfl) hl) (Nat.le_of_ble_eq_true rfl) rfl rfl ?_
  refine ew_aload_n 0 d_X_invariant_5 rfl rfl ?_
  refine ew_iload_n 1 d_X_invariant_6 rfl rfl ?_
  obtain ⟨kM2, h⟩ := kO_inv h
  rcases Or.symm (tV_inv h) with ⟨EM2, NM2, hM2, h⟩ | ⟨M2, hM2, h⟩
  · exact ew_callVx 1 [.int l1] d_X_invariant_7 cv_X_68 lk_X_68 (T_X_requireTruth hM2) kM2 (Nat.le_trans (Nat.le_of_ble_eq_true rfl) hn) (Nat.le_trans (Nat.le_of_ble_eq_true rfl) hl) (Nat.le_of_ble_eq_true rfl) rfl (ew_leave (qHd_ne (by decide)) (Prod.mk.inj h).1 (Prod.mk.inj h).2)
  refine ew_callV 1 [.int l1] d_X_invariant_7 cv_X_68 (T_X_requireTruth hM2) kM2 (Nat.le_trans (Nat.le_of_ble_eq_true rfl) hn) (Nat.le_trans (Nat.le_of_ble_eq_true rfl) hl) (Nat.le_of_ble_eq_true rfl) rfl rfl ?_
  refine ew_aload_n 0 d_X_invariant_10 rfl rfl ?_
  refine ew_iload_n 1 d_X_invariant_11 rfl rfl ?_
  obtain ⟨kM3, h⟩ := kO_inv h
  rcases Or.symm (tV_inv h) with ⟨EM3, NM3, hM3, h⟩ | ⟨M3, hM3, h⟩
  · exact ew_callVx 1 [.int l1] d_X_invariant_12 cv_X_95 lk_X_95 (T_X_requireNoFetch hM3) kM3 (Nat.le_trans (Nat.le_of_ble_eq_true rfl) hn) (Nat.le_trans (Nat.le_of_ble_eq_true rfl) hl) (Nat.le_of_ble_eq_true rfl) rfl (ew_leave (qHd_ne (by decide)) (Prod.mk.inj h).1 (Prod.mk.inj h).2)
  refine ew_callV 1 [.int l1] d_X_invariant_12 cv_X_95 (T_X_requireNoFetch hM3) kM3 (Nat.le_trans (Nat.le_of_ble_eq_true rfl) hn) (Nat.le_trans (Nat.le_of_ble_eq_true rfl) hl) (Nat.le_of_ble_eq_true rfl) rfl rfl ?_
  refine ew_aload_n 0 d_X_invariant_15 rfl rfl ?_
  obtain ⟨v4, av4, bv4, h⟩ := gR_inv h
  refine ew_gR 1 0 d_X_invariant_16 fl_X_12 av4 bv4 ?_
  obtain ⟨v5, av5, bv5, h⟩ := gI_inv h
  refine ew_gI 2 8 d_X_invariant_19 fl_X_101 av5 bv5 ?_
  refine ew_bipush (8) d_X_invariant_22 (by decide +kernel) ?_
  refine ew_icmp_lt 37 d_X_invariant_24 (by decide) (fun c6 => ?_) (fun c6 => ?_)
  · rw [if_pos c6] at h
    refine ew_aload_n 0 d_X_invariant_37 rfl rfl ?_
    obtain ⟨v7, av7, bv7, h⟩ := gR_inv h
    refine ew_gR 1 0 d_X_invariant_38 fl_X_12 av7 bv7 ?_
    refine ew_iload_n 1 d_X_invariant_41 rfl rfl ?_
    obtain ⟨kM8, h⟩ := kO_inv h
    obtain ⟨v9, M8, hM8, h⟩ := cI_inv h
    refine ew_callV 2 [.int l1] d_X_invariant_42 cv_X_110 (T_XCore_addInvariant hM8) kM8 (Nat.le_trans (Nat.le_of_ble_eq_true rfl) hn) (Nat.le_trans (Nat.le_of_ble_eq_true rfl) hl) (Nat.le_of_ble_eq_true rfl) rfl rfl ?_
    obtain ⟨hz, hm⟩ := Prod.mk.inj (Option.some.inj h)
    exact ew_ireturn d_X_invariant_45 rfl hz.symm hm.symm
  · rw [if_neg c6] at h
    obtain ⟨hz, hm⟩ := Prod.mk.inj (Option.some.inj h)
    exact ew_throw (qHd_ne (by decide)) th_X_invariant_27 hz.symm hm.symm (Nat.le_trans (Nat.le_of_ble_eq_true rfl) hn) (Nat.le_trans (Nat.le_of_ble_eq_true rfl) hl)
theorem T_X_invariant {n : Nat} {l0 : Nat} {l1 : Int32} {M Mf : PM} {res : qRs} (h : F_X_invariant n l0 l1 M = some (res, Mf)) : CT Y_X_invariant 7 107 [.ref l0, .int l1] M res Mf :=
  CT_of (by decide) (Nat.le_of_ble_eq_true rfl) (qHd_ne (by decide)) (fun g X ad0 => E_X_invariant (g := g) (X := X) (Z := (ad0, M, res, Mf, 7, 107)) (Nat.le_refl _) (Nat.le_refl _) h)
