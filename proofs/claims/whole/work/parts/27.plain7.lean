theorem d_XSearch_giveNumbers_0 : decode Y_XSearch_giveNumbers.2.1 0 = .ok (.iload_n 1, 1) := by decide +kernel
theorem d_XSearch_giveNumbers_1 : decode Y_XSearch_giveNumbers.2.1 1 = .ok (.aload_n 0, 1) := by decide +kernel
theorem d_XSearch_giveNumbers_2 : decode Y_XSearch_giveNumbers.2.1 2 = .ok (.getfield 111, 3) := by decide +kernel
theorem d_XSearch_giveNumbers_5 : decode Y_XSearch_giveNumbers.2.1 5 = .ok (.if_icmp .lt (9), 3) := by decide +kernel
theorem d_XSearch_giveNumbers_8 : decode Y_XSearch_giveNumbers.2.1 8 = .ok (.aload_n 0, 1) := by decide +kernel
theorem d_XSearch_giveNumbers_9 : decode Y_XSearch_giveNumbers.2.1 9 = .ok (.lload_n 3, 1) := by decide +kernel
theorem d_XSearch_giveNumbers_10 : decode Y_XSearch_giveNumbers.2.1 10 = .ok (.invokevirtual 177, 3) := by decide +kernel
theorem d_XSearch_giveNumbers_13 : decode Y_XSearch_giveNumbers.2.1 13 = .ok (.return_, 1) := by decide +kernel
theorem d_XSearch_giveNumbers_14 : decode Y_XSearch_giveNumbers.2.1 14 = .ok (.iconst 0, 1) := by decide +kernel
theorem d_XSearch_giveNumbers_15 : decode Y_XSearch_giveNumbers.2.1 15 = .ok (.istore 5, 2) := by decide +kernel
theorem d_XSearch_giveNumbers_17 : decode Y_XSearch_giveNumbers.2.1 17 = .ok (.iload 5, 2) := by decide +kernel
theorem d_XSearch_giveNumbers_19 : decode Y_XSearch_giveNumbers.2.1 19 = .ok (.iload_n 2, 1) := by decide +kernel
theorem d_XSearch_giveNumbers_20 : decode Y_XSearch_giveNumbers.2.1 20 = .ok (.if_icmp .gt (97), 3) := by decide +kernel
theorem d_XSearch_giveNumbers_23 : decode Y_XSearch_giveNumbers.2.1 23 = .ok (.aload_n 0, 1) := by decide +kernel
theorem d_XSearch_giveNumbers_24 : decode Y_XSearch_giveNumbers.2.1 24 = .ok (.iload_n 1, 1) := by decide +kernel
theorem d_XSearch_giveNumbers_25 : decode Y_XSearch_giveNumbers.2.1 25 = .ok (.iload 5, 2) := by decide +kernel
theorem d_XSearch_giveNumbers_27 : decode Y_XSearch_giveNumbers.2.1 27 = .ok (.lload_n 3, 1) := by decide +kernel
theorem d_XSearch_giveNumbers_28 : decode Y_XSearch_giveNumbers.2.1 28 = .ok (.aload_n 0, 1) := by decide +kernel
theorem d_XSearch_giveNumbers_29 : decode Y_XSearch_giveNumbers.2.1 29 = .ok (.iload_n 1, 1) := by decide +kernel
theorem d_XSearch_giveNumbers_30 : decode Y_XSearch_giveNumbers.2.1 30 = .ok (.invokevirtual 181, 3) := by decide +kernel
theorem d_XSearch_giveNumbers_33 : decode Y_XSearch_giveNumbers.2.1 33 = .ok (.land, 1) := by decide +kernel
theorem d_XSearch_giveNumbers_34 : decode Y_XSearch_giveNumbers.2.1 34 = .ok (.invokevirtual 184, 3) := by decide +kernel
theorem d_XSearch_giveNumbers_37 : decode Y_XSearch_giveNumbers.2.1 37 = .ok (.lstore 6, 2) := by decide +kernel
theorem d_XSearch_giveNumbers_39 : decode Y_XSearch_giveNumbers.2.1 39 = .ok (.lload 6, 2) := by decide +kernel
theorem d_XSearch_giveNumbers_41 : decode Y_XSearch_giveNumbers.2.1 41 = .ok (.lconst 0, 1) := by decide +kernel
theorem d_XSearch_giveNumbers_42 : decode Y_XSearch_giveNumbers.2.1 42 = .ok (.lcmp, 1) := by decide +kernel
theorem d_XSearch_giveNumbers_43 : decode Y_XSearch_giveNumbers.2.1 43 = .ok (.ifCond .eq (44), 3) := by decide +kernel
theorem d_XSearch_giveNumbers_46 : decode Y_XSearch_giveNumbers.2.1 46 = .ok (.aload_n 0, 1) := by decide +kernel
theorem d_XSearch_giveNumbers_47 : decode Y_XSearch_giveNumbers.2.1 47 = .ok (.getfield 35, 3) := by decide +kernel
theorem d_XSearch_giveNumbers_50 : decode Y_XSearch_giveNumbers.2.1 50 = .ok (.iload_n 1, 1) := by decide +kernel
theorem d_XSearch_giveNumbers_51 : decode Y_XSearch_giveNumbers.2.1 51 = .ok (.iload 5, 2) := by decide +kernel
theorem d_XSearch_giveNumbers_53 : decode Y_XSearch_giveNumbers.2.1 53 = .ok (.iastore, 1) := by decide +kernel
theorem d_XSearch_giveNumbers_54 : decode Y_XSearch_giveNumbers.2.1 54 = .ok (.aload_n 0, 1) := by decide +kernel
theorem d_XSearch_giveNumbers_55 : decode Y_XSearch_giveNumbers.2.1 55 = .ok (.getfield 24, 3) := by decide +kernel
theorem d_XSearch_giveNumbers_58 : decode Y_XSearch_giveNumbers.2.1 58 = .ok (.aload_n 0, 1) := by decide +kernel
theorem d_XSearch_giveNumbers_59 : decode Y_XSearch_giveNumbers.2.1 59 = .ok (.getfield 32, 3) := by decide +kernel
theorem d_XSearch_giveNumbers_62 : decode Y_XSearch_giveNumbers.2.1 62 = .ok (.iload_n 1, 1) := by decide +kernel
theorem d_XSearch_giveNumbers_63 : decode Y_XSearch_giveNumbers.2.1 63 = .ok (.iaload, 1) := by decide +kernel
theorem d_XSearch_giveNumbers_64 : decode Y_XSearch_giveNumbers.2.1 64 = .ok (.iload 5, 2) := by decide +kernel
theorem d_XSearch_giveNumbers_66 : decode Y_XSearch_giveNumbers.2.1 66 = .ok (.invokevirtual 188, 3) := by decide +kernel
theorem d_XSearch_giveNumbers_69 : decode Y_XSearch_giveNumbers.2.1 69 = .ok (.aload_n 0, 1) := by decide +kernel
theorem d_XSearch_giveNumbers_70 : decode Y_XSearch_giveNumbers.2.1 70 = .ok (.iload_n 1, 1) := by decide +kernel
theorem d_XSearch_giveNumbers_71 : decode Y_XSearch_giveNumbers.2.1 71 = .ok (.iconst 1, 1) := by decide +kernel
theorem d_XSearch_giveNumbers_72 : decode Y_XSearch_giveNumbers.2.1 72 = .ok (.iadd, 1) := by decide +kernel
theorem d_XSearch_giveNumbers_73 : decode Y_XSearch_giveNumbers.2.1 73 = .ok (.invokevirtual 70, 3) := by decide +kernel
theorem d_XSearch_giveNumbers_76 : decode Y_XSearch_giveNumbers.2.1 76 = .ok (.aload_n 0, 1) := by decide +kernel
theorem d_XSearch_giveNumbers_77 : decode Y_XSearch_giveNumbers.2.1 77 = .ok (.iload_n 1, 1) := by decide +kernel
theorem d_XSearch_giveNumbers_78 : decode Y_XSearch_giveNumbers.2.1 78 = .ok (.iconst 1, 1) := by decide +kernel
theorem d_XSearch_giveNumbers_79 : decode Y_XSearch_giveNumbers.2.1 79 = .ok (.iadd, 1) := by decide +kernel
theorem d_XSearch_giveNumbers_80 : decode Y_XSearch_giveNumbers.2.1 80 = .ok (.lload 6, 2) := by decide +kernel
theorem d_XSearch_giveNumbers_82 : decode Y_XSearch_giveNumbers.2.1 82 = .ok (.invokevirtual 81, 3) := by decide +kernel
theorem d_XSearch_giveNumbers_85 : decode Y_XSearch_giveNumbers.2.1 85 = .ok (.lstore 6, 2) := by decide +kernel
theorem d_XSearch_giveNumbers_87 : decode Y_XSearch_giveNumbers.2.1 87 = .ok (.lload 6, 2) := by decide +kernel
theorem d_XSearch_giveNumbers_89 : decode Y_XSearch_giveNumbers.2.1 89 = .ok (.lconst 0, 1) := by decide +kernel
theorem d_XSearch_giveNumbers_90 : decode Y_XSearch_giveNumbers.2.1 90 = .ok (.lcmp, 1) := by decide +kernel
theorem d_XSearch_giveNumbers_91 : decode Y_XSearch_giveNumbers.2.1 91 = .ok (.ifCond .eq (20), 3) := by decide +kernel
theorem d_XSearch_giveNumbers_94 : decode Y_XSearch_giveNumbers.2.1 94 = .ok (.aload_n 0, 1) := by decide +kernel
theorem d_XSearch_giveNumbers_95 : decode Y_XSearch_giveNumbers.2.1 95 = .ok (.iload_n 1, 1) := by decide +kernel
theorem d_XSearch_giveNumbers_96 : decode Y_XSearch_giveNumbers.2.1 96 = .ok (.iconst 1, 1) := by decide +kernel
theorem d_XSearch_giveNumbers_97 : decode Y_XSearch_giveNumbers.2.1 97 = .ok (.iadd, 1) := by decide +kernel
theorem d_XSearch_giveNumbers_98 : decode Y_XSearch_giveNumbers.2.1 98 = .ok (.iload_n 2, 1) := by decide +kernel
theorem d_XSearch_giveNumbers_99 : decode Y_XSearch_giveNumbers.2.1 99 = .ok (.iload 5, 2) := by decide +kernel
theorem d_XSearch_giveNumbers_101 : decode Y_XSearch_giveNumbers.2.1 101 = .ok (.iconst 1, 1) := by decide +kernel
theorem d_XSearch_giveNumbers_102 : decode Y_XSearch_giveNumbers.2.1 102 = .ok (.iadd, 1) := by decide +kernel
theorem d_XSearch_giveNumbers_103 : decode Y_XSearch_giveNumbers.2.1 103 = .ok (.invokestatic 140, 3) := by decide +kernel
theorem d_XSearch_giveNumbers_106 : decode Y_XSearch_giveNumbers.2.1 106 = .ok (.lload 6, 2) := by decide +kernel
theorem d_XSearch_giveNumbers_108 : decode Y_XSearch_giveNumbers.2.1 108 = .ok (.invokevirtual 85, 3) := by decide +kernel
theorem d_XSearch_giveNumbers_111 : decode Y_XSearch_giveNumbers.2.1 111 = .ok (.iinc 5 (1), 3) := by decide +kernel
theorem d_XSearch_giveNumbers_114 : decode Y_XSearch_giveNumbers.2.1 114 = .ok (.goto (-97), 3) := by decide +kernel
theorem d_XSearch_giveNumbers_117 : decode Y_XSearch_giveNumbers.2.1 117 = .ok (.return_, 1) := by decide +kernel
def F_XSearch_giveNumbers_111 (n : Nat) (slf : Nat → Int32 → Int32 → Int64 → PM → qO) (rec17 : Nat → Int32 → Int32 → Int64 → Int32 → PM → qO) (l0 : Nat) (l1 : Int32) (l2 : Int32) (l3 : Int64) (l5 : Int32) (M : PM) : qO :=
  bI (l5 + (1 : Int32)) (fun v1 =>
  rec17 l0 l1 l2 l3 v1 M)
set_option maxHeartbeats 4000000 in
set_option maxRecDepth 100000 in
theorem E_XSearch_giveNumbers_111 {g : qG} {X : qX} {Z : qZ} (hn : 3 ≤ zn Z) (hl : 77 ≤ zl Z) {n : Nat} {slf : Nat → Int32 → Int32 → Int64 → PM → qO} {fd ld : Nat} (hslf : ∀ (a0 : Nat) (a1 : Int32) (a2 : Int32) (a3 : Int64) (M : PM) (res : qRs) (Mf : PM), slf a0 a1 a2 a3 M = some (res, Mf) → CT Y_XSearch_giveNumbers fd ld [.ref a0, .int a1, .int a2, .long a3] M res Mf) (hfr : fd + 1 ≤ zn Z) (hlo : 8 + (Y_XSearch_giveNumbers.2.2.1 + 11) + ld ≤ zl Z) {rec17 : Nat → Int32 → Int32 → Int64 → Int32 → PM → qO} (hrec17 : ∀ (l0 : Nat) (l1 : Int32) (l2 : Int32) (l3 : Int64) (l5 : Int32) (M : PM), rec17 l0 l1 l2 l3 l5 M = some (zr Z, zf Z) → EW Y_XSearch_giveNumbers g X Z 17 [(0, .ref l0), (1, .int l1), (2, .int l2), (3, .long l3), (5, .int l5)] [] M) {l0 : Nat} {l1 : Int32} {l2 : Int32} {l3 : Int64} {l5 : Int32} {M : PM} (h : F_XSearch_giveNumbers_111 n slf rec17 l0 l1 l2 l3 l5 M = some (zr Z, zf Z)) : EW Y_XSearch_giveNumbers g X Z 111 [(0, .ref l0), (1, .int l1), (2, .int l2), (3, .long l3), (5, .int l5)] [] M := by
  unfold F_XSearch_giveNumbers_111 at h
  obtain ⟨v1, ev1, h⟩ := bI_inv h
  refine ew_iinc (L' := [(0, .ref l0), (1, .int l1), (2, .int l2), (3, .long l3), (5, .int v1)]) v1 [1, 2, 3, 4, 0] d_XSearch_giveNumbers_111 rfl (by rw [ev1]; rfl) (by decide) rfl ?_
  refine ew_goto 17 d_XSearch_giveNumbers_114 (by decide) ?_
  exact hrec17 l0 l1 l2 l3 v1 M h
def F_XSearch_giveNumbers_87 (n : Nat) (slf : Nat → Int32 → Int32 → Int64 → PM → qO) (rec17 : Nat → Int32 → Int32 → Int64 → Int32 → PM → qO) (l0 : Nat) (l1 : Int32) (l2 : Int32) (l3 : Int64) (l5 : Int32) (l6 : Int64) (M : PM) : qO :=
  if (lg_cmp l6 (0 : Int64)) = (0 : Int32) then
    F_XSearch_giveNumbers_111 n slf rec17 l0 l1 l2 l3 l5 M
  else
    bI (if l2 < (l5 + (1 : Int32)) then (l5 + (1 : Int32)) else l2) (fun v2 =>
    kO 8 M l0 (
    cV (slf l0 (l1 + (1 : Int32)) v2 l6 M) (fun M3 =>
    F_XSearch_giveNumbers_111 n slf rec17 l0 l1 l2 l3 l5 M3)))
set_option maxHeartbeats 4000000 in
set_option maxRecDepth 100000 in
theorem E_XSearch_giveNumbers_87 {g : qG} {X : qX} {Z : qZ} (hn : 3 ≤ zn Z) (hl : 77 ≤ zl Z) {n : Nat} {slf : Nat → Int32 → Int32 → Int64 → PM → qO} {fd ld : Nat} (hslf : ∀ (a0 : Nat) (a1 : Int32) (a2 : Int32) (a3 : Int64) (M : PM) (res : qRs) (Mf : PM), slf a0 a1 a2 a3 M = some (res, Mf) → CT Y_XSearch_giveNumbers fd ld [.ref a0, .int a1, .int a2, .long a3] M res Mf) (hfr : fd + 1 ≤ zn Z) (hlo : 8 + (Y_XSearch_giveNumbers.2.2.1 + 11) + ld ≤ zl Z) {rec17 : Nat → Int32 → Int32 → Int64 → Int32 → PM → qO} (hrec17 : ∀ (l0 : Nat) (l1 : Int32) (l2 : Int32) (l3 : Int64) (l5 : Int32) (M : PM), rec17 l0 l1 l2 l3 l5 M = some (zr Z, zf Z) → EW Y_XSearch_giveNumbers g X Z 17 [(0, .ref l0), (1, .int l1), (2, .int l2), (3, .long l3), (5, .int l5)] [] M) {l0 : Nat} {l1 : Int32} {l2 : Int32} {l3 : Int64} {l5 : Int32} {l6 : Int64} {M : PM} (h : F_XSearch_giveNumbers_87 n slf rec17 l0 l1 l2 l3 l5 l6 M = some (zr Z, zf Z)) : EW Y_XSearch_giveNumbers g X Z 87 [(0, .ref l0), (1, .int l1), (2, .int l2), (3, .long l3), (5, .int l5), (6, .long l6)] [] M := by
  unfold F_XSearch_giveNumbers_87 at h
  refine ew_lload d_XSearch_giveNumbers_87 rfl ?_
  refine ew_lconst 0 d_XSearch_giveNumbers_89 (by decide) ?_
  refine ew_lcmp d_XSearch_giveNumbers_90 ?_
  refine ew_if_eq 111 d_XSearch_giveNumbers_91 (by decide) (fun c1 => ?_) (fun c1 => ?_)
  · rw [if_pos c1] at h
    exact ew_pick (L' := [(0, .ref l0), (1, .int l1), (2, .int l2), (3, .long l3), (5, .int l5)]) [0, 1, 2, 3, 4] rfl (E_XSearch_giveNumbers_111 hn hl hslf hfr hlo hrec17 h)
  · rw [if_neg c1] at h
    refine ew_aload_n 0 d_XSearch_giveNumbers_94 rfl rfl ?_
    refine ew_iload_n 1 d_XSearch_giveNumbers_95 rfl rfl ?_
    refine ew_iconst (1) d_XSearch_giveNumbers_96 (by decide) ?_
    refine ew_iadd d_XSearch_giveNumbers_97 ?_
    refine ew_iload_n 2 d_XSearch_giveNumbers_98 rfl rfl ?_
    refine ew_iload d_XSearch_giveNumbers_99 rfl ?_
    refine ew_iconst (1) d_XSearch_giveNumbers_101 (by decide) ?_
    refine ew_iadd d_XSearch_giveNumbers_102 ?_
    obtain ⟨v2, ev2, h⟩ := bI_inv h
    refine ew_mmax d_XSearch_giveNumbers_103 ma_XSearch_140 ev2 (Nat.le_trans (Nat.le_of_ble_eq_true rfl) hn) (Nat.le_trans (Nat.le_of_ble_eq_true rfl) hl) ?_
    refine ew_lload d_XSearch_giveNumbers_106 rfl ?_
    obtain ⟨kM3, h⟩ := kO_inv h
    obtain ⟨M3, hM3, h⟩ := cV_inv h
    refine ew_callV 8 [.int (l1 + (1 : Int32)), .int v2, .long l6] d_XSearch_giveNumbers_108 cv_XSearch_85 (hslf _ _ _ _ _ _ _ hM3) kM3 hfr hlo (Nat.le_of_ble_eq_true rfl) rfl rfl ?_
    exact ew_pick (L' := [(0, .ref l0), (1, .int l1), (2, .int l2), (3, .long l3), (5, .int l5)]) [0, 1, 2, 3, 4] rfl (E_XSearch_giveNumbers_111 hn hl hslf hfr hlo hrec17 h)
def F_XSearch_giveNumbers_17 (n : Nat) (slf : Nat → Int32 → Int32 → Int64 → PM → qO) : Nat → Nat → Int32 → Int32 → Int64 → Int32 → PM → qO
  | 0, _, _, _, _, _, _ => none
  | f + 1, l0, l1, l2, l3, l5, M =>
    if l2 < l5 then
      some (.inl none, M)
    else
      kO 8 M l0 (
      cL (F_XSearch_statesOfUse n l0 l1 M) (fun v3 M2 =>
      kO 8 M2 l0 (
      cL (F_XSearch_withFunctions n l0 l1 l5 (l3 &&& v3) M2) (fun v5 M4 =>
      if (lg_cmp v5 (0 : Int64)) = (0 : Int32) then
        F_XSearch_giveNumbers_87 n slf (F_XSearch_giveNumbers_17 n slf f) l0 l1 l2 l3 l5 v5 M4
      else
        gR 8 M4 l0 5 (fun v7 =>
        wI M4 v7 l1 l5 (fun M8 =>
        gR 8 M8 l0 2 (fun v9 =>
        gR 8 M8 l0 4 (fun v10 =>
        lI M8 v10 l1 (fun v11 =>
        kO 5 M8 v9 (
        cV (F_XPlanes_setWord n v9 v11 l5 M8) (fun M12 =>
        kO 8 M12 l0 (
        cV (F_XSearch_reckonLevel n l0 (l1 + (1 : Int32)) M12) (fun M13 =>
        kO 8 M13 l0 (
        cL (F_XSearch_withInvariants n l0 (l1 + (1 : Int32)) v5 M13) (fun v15 M14 =>
        F_XSearch_giveNumbers_87 n slf (F_XSearch_giveNumbers_17 n slf f) l0 l1 l2 l3 l5 v15 M14)))))))))))))))
set_option maxHeartbeats 4000000 in
set_option maxRecDepth 100000 in
theorem E_XSearch_giveNumbers_17 {g : qG} {X : qX} {Z : qZ} (hn : 3 ≤ zn Z) (hl : 77 ≤ zl Z) {n : Nat} {slf : Nat → Int32 → Int32 → Int64 → PM → qO} {fd ld : Nat} (hslf : ∀ (a0 : Nat) (a1 : Int32) (a2 : Int32) (a3 : Int64) (M : PM) (res : qRs) (Mf : PM), slf a0 a1 a2 a3 M = some (res, Mf) → CT Y_XSearch_giveNumbers fd ld [.ref a0, .int a1, .int a2, .long a3] M res Mf) (hfr : fd + 1 ≤ zn Z) (hlo : 8 + (Y_XSearch_giveNumbers.2.2.1 + 11) + ld ≤ zl Z) : ∀ (f : Nat) (l0 : Nat) (l1 : Int32) (l2 : Int32) (l3 : Int64) (l5 : Int32) (M : PM), F_XSearch_giveNumbers_17 n slf f l0 l1 l2 l3 l5 M = some (zr Z, zf Z) → EW Y_XSearch_giveNumbers g X Z 17 [(0, .ref l0), (1, .int l1), (2, .int l2), (3, .long l3), (5, .int l5)] [] M := by
  intro f
  induction f with
  | zero => intro l0 l1 l2 l3 l5 M h; rw [F_XSearch_giveNumbers_17] at h; cases h
  | succ f ih =>
    intro l0 l1 l2 l3 l5 M h
    rw [F_XSearch_giveNumbers_17] at h
    refine ew_iload d_XSearch_giveNumbers_17 rfl ?_
    refine ew_iload_n 2 d_XSearch_giveNumbers_19 rfl rfl ?_
    refine ew_icmp_gt 117 d_XSearch_giveNumbers_20 (by decide) (fun c1 => ?_) (fun c1 => ?_)
    · rw [if_pos c1] at h
      obtain ⟨hz, hm⟩ := Prod.mk.inj (Option.some.inj h)
      exact ew_return d_XSearch_giveNumbers_117 rfl hz.symm hm.symm
    · rw [if_neg c1] at h
      refine ew_aload_n 0 d_XSearch_giveNumbers_23 rfl rfl ?_
      refine ew_iload_n 1 d_XSearch_giveNumbers_24 rfl rfl ?_
      refine ew_iload d_XSearch_giveNumbers_25 rfl ?_
      refine ew_lload_n 3 d_XSearch_giveNumbers_27 rfl rfl ?_
      refine ew_aload_n 0 d_XSearch_giveNumbers_28 rfl rfl ?_
      refine ew_iload_n 1 d_XSearch_giveNumbers_29 rfl rfl ?_
      obtain ⟨kM2, h⟩ := kO_inv h
      obtain ⟨v3, M2, hM2, h⟩ := cL_inv h
      refine ew_callV 8 [.int l1] d_XSearch_giveNumbers_30 cv_XSearch_181 (T_XSearch_statesOfUse hM2) kM2 (Nat.le_trans (Nat.le_of_ble_eq_true rfl) hn) (Nat.le_trans (Nat.le_of_ble_eq_true rfl) hl) (Nat.le_of_ble_eq_true rfl) rfl rfl ?_
      refine ew_land d_XSearch_giveNumbers_33 ?_
      obtain ⟨kM4, h⟩ := kO_inv h
      obtain ⟨v5, M4, hM4, h⟩ := cL_inv h
      refine ew_callV 8 [.int l1, .int l5, .long (l3 &&& v3)] d_XSearch_giveNumbers_34 cv_XSearch_184 (T_XSearch_withFunctions hM4) kM4 (Nat.le_trans (Nat.le_of_ble_eq_true rfl) hn) (Nat.le_trans (Nat.le_of_ble_eq_true rfl) hl) (Nat.le_of_ble_eq_true rfl) rfl rfl ?_
      refine ew_lstore (L' := [(0, .ref l0), (1, .int l1), (2, .int l2), (3, .long l3), (5, .int l5), (6, .long v5)]) [1, 2, 3, 4, 5, 0] d_XSearch_giveNumbers_37 (by decide) rfl ?_
      refine ew_lload d_XSearch_giveNumbers_39 rfl ?_
      refine ew_lconst 0 d_XSearch_giveNumbers_41 (by decide) ?_
      refine ew_lcmp d_XSearch_giveNumbers_42 ?_
      refine ew_if_eq 87 d_XSearch_giveNumbers_43 (by decide) (fun c6 => ?_) (fun c6 => ?_)
      · rw [if_pos c6] at h
        exact E_XSearch_giveNumbers_87 hn hl hslf hfr hlo ih h
      · rw [if_neg c6] at h
        refine ew_aload_n 0 d_XSearch_giveNumbers_46 rfl rfl ?_
        obtain ⟨v7, av7, bv7, h⟩ := gR_inv h
        refine ew_gR 8 5 d_XSearch_giveNumbers_47 fl_XSearch_35 av7 bv7 ?_
        refine ew_iload_n 1 d_XSearch_giveNumbers_50 rfl rfl ?_
        refine ew_iload d_XSearch_giveNumbers_51 rfl ?_
        obtain ⟨M8, aM8, bM8, cM8, eM8, h⟩ := wI_inv h
        refine ew_wI d_XSearch_giveNumbers_53 aM8 bM8 cM8 eM8 ?_
        refine ew_aload_n 0 d_XSearch_giveNumbers_54 rfl rfl ?_
        obtain ⟨v9, av9, bv9, h⟩ := gR_inv h
        refine ew_gR 8 2 d_XSearch_giveNumbers_55 fl_XSearch_24 av9 bv9 ?_
        refine ew_aload_n 0 d_XSearch_giveNumbers_58 rfl rfl ?_
        obtain ⟨v10, av10, bv10, h⟩ := gR_inv h
        refine ew_gR 8 4 d_XSearch_giveNumbers_59 fl_XSearch_32 av10 bv10 ?_
        refine ew_iload_n 1 d_XSearch_giveNumbers_62 rfl rfl ?_
        obtain ⟨v11, av11, bv11, cv11, ev11, h⟩ := lI_inv h
        refine ew_lI d_XSearch_giveNumbers_63 av11 bv11 cv11 ev11 ?_
        refine ew_iload d_XSearch_giveNumbers_64 rfl ?_
        obtain ⟨kM12, h⟩ := kO_inv h
        obtain ⟨M12, hM12, h⟩ := cV_inv h
        refine ew_callV 5 [.int v11, .int l5] d_XSearch_giveNumbers_66 cv_XSearch_188 (T_XPlanes_setWord hM12) kM12 (Nat.le_trans (Nat.le_of_ble_eq_true rfl) hn) (Nat.le_trans (Nat.le_of_ble_eq_true rfl) hl) (Nat.le_of_ble_eq_true rfl) rfl rfl ?_
        refine ew_aload_n 0 d_XSearch_giveNumbers_69 rfl rfl ?_
        refine ew_iload_n 1 d_XSearch_giveNumbers_70 rfl rfl ?_
        refine ew_iconst (1) d_XSearch_giveNumbers_71 (by decide) ?_
        refine ew_iadd d_XSearch_giveNumbers_72 ?_
        obtain ⟨kM13, h⟩ := kO_inv h
        obtain ⟨M13, hM13, h⟩ := cV_inv h
        refine ew_callV 8 [.int (l1 + (1 : Int32))] d_XSearch_giveNumbers_73 cv_XSearch_70 (T_XSearch_reckonLevel hM13) kM13 (Nat.le_trans (Nat.le_of_ble_eq_true rfl) hn) (Nat.le_trans (Nat.le_of_ble_eq_true rfl) hl) (Nat.le_of_ble_eq_true rfl) rfl rfl ?_
        refine ew_aload_n 0 d_XSearch_giveNumbers_76 rfl rfl ?_
        refine ew_iload_n 1 d_XSearch_giveNumbers_77 rfl rfl ?_
        refine ew_iconst (1) d_XSearch_giveNumbers_78 (by decide) ?_
        refine ew_iadd d_XSearch_giveNumbers_79 ?_
        refine ew_lload d_XSearch_giveNumbers_80 rfl ?_
        obtain ⟨kM14, h⟩ := kO_inv h
        obtain ⟨v15, M14, hM14, h⟩ := cL_inv h
        refine ew_callV 8 [.int (l1 + (1 : Int32)), .long v5] d_XSearch_giveNumbers_82 cv_XSearch_81 (T_XSearch_withInvariants hM14) kM14 (Nat.le_trans (Nat.le_of_ble_eq_true rfl) hn) (Nat.le_trans (Nat.le_of_ble_eq_true rfl) hl) (Nat.le_of_ble_eq_true rfl) rfl rfl ?_
        refine ew_lstore (L' := [(0, .ref l0), (1, .int l1), (2, .int l2), (3, .long l3), (5, .int l5), (6, .long v15)]) [1, 2, 3, 4, 5, 0] d_XSearch_giveNumbers_85 (by decide) rfl ?_
        exact E_XSearch_giveNumbers_87 hn hl hslf hfr hlo ih h
def F_XSearch_giveNumbers_b (n : Nat) (slf : Nat → Int32 → Int32 → Int64 → PM → qO) (l0 : Nat) (l1 : Int32) (l2 : Int32) (l3 : Int64) (M : PM) : qO :=
  gI 8 M l0 11 (fun v1 =>
  if l1 < v1 then
    F_XSearch_giveNumbers_17 n slf n l0 l1 l2 l3 (0 : Int32) M
  else
    kO 8 M l0 (
    cV (F_XSearch_look n l0 l3 M) (fun M3 =>
    some (.inl none, M3))))
set_option maxHeartbeats 4000000 in
set_option maxRecDepth 100000 in
theorem E_XSearch_giveNumbers_b {g : qG} {X : qX} {Z : qZ} (hn : 3 ≤ zn Z) (hl : 77 ≤ zl Z) {n : Nat} {slf : Nat → Int32 → Int32 → Int64 → PM → qO} {fd ld : Nat} (hslf : ∀ (a0 : Nat) (a1 : Int32) (a2 : Int32) (a3 : Int64) (M : PM) (res : qRs) (Mf : PM), slf a0 a1 a2 a3 M = some (res, Mf) → CT Y_XSearch_giveNumbers fd ld [.ref a0, .int a1, .int a2, .long a3] M res Mf) (hfr : fd + 1 ≤ zn Z) (hlo : 8 + (Y_XSearch_giveNumbers.2.2.1 + 11) + ld ≤ zl Z) {l0 : Nat} {l1 : Int32} {l2 : Int32} {l3 : Int64} {M : PM} (h : F_XSearch_giveNumbers_b n slf l0 l1 l2 l3 M = some (zr Z, zf Z)) : EW Y_XSearch_giveNumbers g X Z 0 [(0, .ref l0), (1, .int l1), (2, .int l2), (3, .long l3)] [] M := by
  unfold F_XSearch_giveNumbers_b at h
  refine ew_iload_n 1 d_XSearch_giveNumbers_0 rfl rfl ?_
  refine ew_aload_n 0 d_XSearch_giveNumbers_1 rfl rfl ?_
  obtain ⟨v1, av1, bv1, h⟩ := gI_inv h
  refine ew_gI 8 11 d_XSearch_giveNumbers_2 fl_XSearch_111 av1 bv1 ?_
  refine ew_icmp_lt 14 d_XSearch_giveNumbers_5 (by decide) (fun c2 => ?_) (fun c2 => ?_)
  · rw [if_pos c2] at h
    refine ew_iconst (0) d_XSearch_giveNumbers_14 (by decide) ?_
    refine ew_istore (L' := [(0, .ref l0), (1, .int l1), (2, .int l2), (3, .long l3), (5, .int (0 : Int32))]) [1, 2, 3, 4, 0] d_XSearch_giveNumbers_15 (by decide) rfl ?_
    exact E_XSearch_giveNumbers_17 hn hl hslf hfr hlo n l0 l1 l2 l3 (0 : Int32) M h
  · rw [if_neg c2] at h
    refine ew_aload_n 0 d_XSearch_giveNumbers_8 rfl rfl ?_
    refine ew_lload_n 3 d_XSearch_giveNumbers_9 rfl rfl ?_
    obtain ⟨kM3, h⟩ := kO_inv h
    obtain ⟨M3, hM3, h⟩ := cV_inv h
    refine ew_callV 8 [.long l3] d_XSearch_giveNumbers_10 cv_XSearch_177 (T_XSearch_look hM3) kM3 (Nat.le_trans (Nat.le_of_ble_eq_true rfl) hn) (Nat.le_trans (Nat.le_of_ble_eq_true rfl) hl) (Nat.le_of_ble_eq_true rfl) rfl rfl ?_
    obtain ⟨hz, hm⟩ := Prod.mk.inj (Option.some.inj h)
    exact ew_return d_XSearch_giveNumbers_13 rfl hz.symm hm.symm
def F_XSearch_giveNumbers (n : Nat) : Nat → Nat → Int32 → Int32 → Int64 → PM → qO
  | 0, _, _, _, _, _ => none
  | d + 1, l0, l1, l2, l3, M => F_XSearch_giveNumbers_b n (F_XSearch_giveNumbers n d) l0 l1 l2 l3 M
theorem T_XSearch_giveNumbers {n : Nat} : ∀ {d : Nat} {l0 : Nat} {l1 : Int32} {l2 : Int32} {l3 : Int64} {M Mf : PM} {res : qRs} (h : F_XSearch_giveNumbers n d l0 l1 l2 l3 M = some (res, Mf)), CT Y_XSearch_giveNumbers (3 + d) (77 + d * 27) [.ref l0, .int l1, .int l2, .long l3] M res Mf := by
  intro d
  induction d with
  | zero => intro l0 l1 l2 l3 M Mf res h; rw [F_XSearch_giveNumbers] at h; cases h
  | succ d ih =>
    intro l0 l1 l2 l3 M Mf res h
    rw [F_XSearch_giveNumbers] at h
    exact CT_of (by decide) (Nat.le_of_ble_eq_true rfl) (qHd_ne (by decide)) (fun g X ad0 => E_XSearch_giveNumbers_b (g := g) (X := X) (Z := (ad0, M, res, Mf, 3 + (d + 1), 77 + (d + 1) * 27)) (Nat.le_add_right _ _) (Nat.le_add_right _ _) (fun _ _ _ _ _ _ _ h => ih h) (Nat.le_refl _) (by show 8 + (8 + 11) + (77 + d * 27) ≤ 77 + (d + 1) * 27; omega) h)
theorem d_XSearch_findLeast_0 : decode Y_XSearch_findLeast.2.1 0 = .ok (.aload_n 0, 1) := by decide +kernel
theorem d_XSearch_findLeast_1 : decode Y_XSearch_findLeast.2.1 1 = .ok (.bipush (64), 2) := by decide +kernel
theorem d_XSearch_findLeast_3 : decode Y_XSearch_findLeast.2.1 3 = .ok (.putfield 50, 3) := by decide +kernel
theorem d_XSearch_findLeast_6 : decode Y_XSearch_findLeast.2.1 6 = .ok (.aload_n 0, 1) := by decide +kernel
theorem d_XSearch_findLeast_7 : decode Y_XSearch_findLeast.2.1 7 = .ok (.iconst 0, 1) := by decide +kernel
theorem d_XSearch_findLeast_8 : decode Y_XSearch_findLeast.2.1 8 = .ok (.putfield 54, 3) := by decide +kernel
theorem d_XSearch_findLeast_11 : decode Y_XSearch_findLeast.2.1 11 = .ok (.aload_n 0, 1) := by decide +kernel
theorem d_XSearch_findLeast_12 : decode Y_XSearch_findLeast.2.1 12 = .ok (.aload_n 1, 1) := by decide +kernel
theorem d_XSearch_findLeast_13 : decode Y_XSearch_findLeast.2.1 13 = .ok (.invokevirtual 57, 3) := by decide +kernel
theorem d_XSearch_findLeast_16 : decode Y_XSearch_findLeast.2.1 16 = .ok (.aload_n 0, 1) := by decide +kernel
theorem d_XSearch_findLeast_17 : decode Y_XSearch_findLeast.2.1 17 = .ok (.aload_n 1, 1) := by decide +kernel
theorem d_XSearch_findLeast_18 : decode Y_XSearch_findLeast.2.1 18 = .ok (.invokevirtual 61, 3) := by decide +kernel
theorem d_XSearch_findLeast_21 : decode Y_XSearch_findLeast.2.1 21 = .ok (.aload_n 0, 1) := by decide +kernel
theorem d_XSearch_findLeast_22 : decode Y_XSearch_findLeast.2.1 22 = .ok (.aload_n 1, 1) := by decide +kernel
theorem d_XSearch_findLeast_23 : decode Y_XSearch_findLeast.2.1 23 = .ok (.invokevirtual 64, 3) := by decide +kernel
theorem d_XSearch_findLeast_26 : decode Y_XSearch_findLeast.2.1 26 = .ok (.aload_n 0, 1) := by decide +kernel
theorem d_XSearch_findLeast_27 : decode Y_XSearch_findLeast.2.1 27 = .ok (.invokevirtual 67, 3) := by decide +kernel
theorem d_XSearch_findLeast_30 : decode Y_XSearch_findLeast.2.1 30 = .ok (.aload_n 0, 1) := by decide +kernel
theorem d_XSearch_findLeast_31 : decode Y_XSearch_findLeast.2.1 31 = .ok (.iconst 0, 1) := by decide +kernel
theorem d_XSearch_findLeast_32 : decode Y_XSearch_findLeast.2.1 32 = .ok (.invokevirtual 70, 3) := by decide +kernel
theorem d_XSearch_findLeast_35 : decode Y_XSearch_findLeast.2.1 35 = .ok (.aload_n 0, 1) := by decide +kernel
theorem d_XSearch_findLeast_36 : decode Y_XSearch_findLeast.2.1 36 = .ok (.iconst 0, 1) := by decide +kernel
theorem d_XSearch_findLeast_37 : decode Y_XSearch_findLeast.2.1 37 = .ok (.iconst 1, 1) := by decide +kernel
theorem d_XSearch_findLeast_38 : decode Y_XSearch_findLeast.2.1 38 = .ok (.aload_n 0, 1) := by decide +kernel
theorem d_XSearch_findLeast_39 : decode Y_XSearch_findLeast.2.1 39 = .ok (.getfield 74, 3) := by decide +kernel
theorem d_XSearch_findLeast_42 : decode Y_XSearch_findLeast.2.1 42 = .ok (.ishl, 1) := by decide +kernel
theorem d_XSearch_findLeast_43 : decode Y_XSearch_findLeast.2.1 43 = .ok (.invokestatic 77, 3) := by decide +kernel
theorem d_XSearch_findLeast_46 : decode Y_XSearch_findLeast.2.1 46 = .ok (.invokevirtual 81, 3) := by decide +kernel
theorem d_XSearch_findLeast_49 : decode Y_XSearch_findLeast.2.1 49 = .ok (.lstore_n 2, 1) := by decide +kernel
theorem d_XSearch_findLeast_50 : decode Y_XSearch_findLeast.2.1 50 = .ok (.lload_n 2, 1) := by decide +kernel
theorem d_XSearch_findLeast_51 : decode Y_XSearch_findLeast.2.1 51 = .ok (.lconst 0, 1) := by decide +kernel
theorem d_XSearch_findLeast_52 : decode Y_XSearch_findLeast.2.1 52 = .ok (.lcmp, 1) := by decide +kernel
theorem d_XSearch_findLeast_53 : decode Y_XSearch_findLeast.2.1 53 = .ok (.ifCond .eq (10), 3) := by decide +kernel
theorem d_XSearch_findLeast_56 : decode Y_XSearch_findLeast.2.1 56 = .ok (.aload_n 0, 1) := by decide +kernel
theorem d_XSearch_findLeast_57 : decode Y_XSearch_findLeast.2.1 57 = .ok (.iconst 0, 1) := by decide +kernel
theorem d_XSearch_findLeast_58 : decode Y_XSearch_findLeast.2.1 58 = .ok (.iconst 0, 1) := by decide +kernel
theorem d_XSearch_findLeast_59 : decode Y_XSearch_findLeast.2.1 59 = .ok (.lload_n 2, 1) := by decide +kernel
theorem d_XSearch_findLeast_60 : decode Y_XSearch_findLeast.2.1 60 = .ok (.invokevirtual 85, 3) := by decide +kernel
theorem d_XSearch_findLeast_63 : decode Y_XSearch_findLeast.2.1 63 = .ok (.aload_n 0, 1) := by decide +kernel
theorem d_XSearch_findLeast_64 : decode Y_XSearch_findLeast.2.1 64 = .ok (.getfield 50, 3) := by decide +kernel
theorem d_XSearch_findLeast_67 : decode Y_XSearch_findLeast.2.1 67 = .ok (.bipush (64), 2) := by decide +kernel
theorem d_XSearch_findLeast_69 : decode Y_XSearch_findLeast.2.1 69 = .ok (.if_icmp .eq (7), 3) := by decide +kernel
theorem d_XSearch_findLeast_72 : decode Y_XSearch_findLeast.2.1 72 = .ok (.iconst 1, 1) := by decide +kernel
theorem d_XSearch_findLeast_73 : decode Y_XSearch_findLeast.2.1 73 = .ok (.goto (4), 3) := by decide +kernel
theorem d_XSearch_findLeast_76 : decode Y_XSearch_findLeast.2.1 76 = .ok (.iconst 0, 1) := by decide +kernel
theorem d_XSearch_findLeast_77 : decode Y_XSearch_findLeast.2.1 77 = .ok (.ireturn, 1) := by decide +kernel
def F_XSearch_findLeast_77 (n : Nat) (s0 : Int32) (M : PM) : qO :=
  rZ s0 M
set_option maxHeartbeats 4000000 in
set_option maxRecDepth 100000 in
theorem E_XSearch_findLeast_77 {g : qG} {X : qX} {Z : qZ} (hn : 12 ≤ zn Z) (hl : 320 ≤ zl Z) {n : Nat} {s0 : Int32} {M : PM} (h : F_XSearch_findLeast_77 n s0 M = some (zr Z, zf Z)) : EW Y_XSearch_findLeast g X Z 77 [] [.int s0] M := by
  unfold F_XSearch_findLeast_77 at h
  obtain ⟨hb, h⟩ := rZ_inv h
  obtain ⟨hz, hm⟩ := Prod.mk.inj (Option.some.inj h)
  exact ew_zreturn d_XSearch_findLeast_77 rfl hz.symm hm.symm hb
def F_XSearch_findLeast_63 (n : Nat) (l0 : Nat) (M : PM) : qO :=
  gI 8 M l0 13 (fun v1 =>
  if v1 = (64 : Int32) then
    F_XSearch_findLeast_77 n (0 : Int32) M
  else
    F_XSearch_findLeast_77 n (1 : Int32) M)
set_option maxHeartbeats 4000000 in
set_option maxRecDepth 100000 in
theorem E_XSearch_findLeast_63 {g : qG} {X : qX} {Z : qZ} (hn : 12 ≤ zn Z) (hl : 320 ≤ zl Z) {n : Nat} {l0 : Nat} {M : PM} (h : F_XSearch_findLeast_63 n l0 M = some (zr Z, zf Z)) : EW Y_XSearch_findLeast g X Z 63 [(0, .ref l0)] [] M := by
  unfold F_XSearch_findLeast_63 at h
  refine ew_aload_n 0 d_XSearch_findLeast_63 rfl rfl ?_
  obtain ⟨v1, av1, bv1, h⟩ := gI_inv h
  refine ew_gI 8 13 d_XSearch_findLeast_64 fl_XSearch_50 av1 bv1 ?_
  refine ew_bipush (64) d_XSearch_findLeast_67 (by decide +kernel) ?_
  refine ew_icmp_eq 76 d_XSearch_findLeast_69 (by decide) (fun c2 => ?_) (fun c2 => ?_)
  · rw [if_pos c2] at h
    refine ew_iconst (0) d_XSearch_findLeast_76 (by decide) ?_
    exact ew_pick (L' := []) [] rfl (E_XSearch_findLeast_77 hn hl h)
  · rw [if_neg c2] at h
    refine ew_iconst (1) d_XSearch_findLeast_72 (by decide) ?_
    refine ew_goto 77 d_XSearch_findLeast_73 (by decide) ?_
    exact ew_pick (L' := []) [] rfl (E_XSearch_findLeast_77 hn hl h)
def F_XSearch_findLeast (n : Nat) (l0 : Nat) (l1 : Nat) (M : PM) : qO :=
  pF 8 M l0 13 (.int (64 : Int32)) (fun M1 =>
  pF 8 M1 l0 14 (.int (0 : Int32)) (fun M2 =>
  kO 8 M2 l0 (
  cV (F_XSearch_collect n l0 l1 M2) (fun M3 =>
  kO 8 M3 l0 (
  cV (F_XSearch_setLevels n l0 l1 M3) (fun M4 =>
  kO 8 M4 l0 (
  cV (F_XSearch_arrange n l0 l1 M4) (fun M5 =>
  kO 8 M5 l0 (
  cV (F_XSearch_setTruths n l0 M5) (fun M6 =>
  kO 8 M6 l0 (
  cV (F_XSearch_reckonLevel n l0 (0 : Int32) M6) (fun M7 =>
  gI 8 M7 l0 10 (fun v8 =>
  cL (F_XSearch_statesBelow n ((1 : Int32) <<< (v8 &&& 31)) M7) (fun v10 M9 =>
  kO 8 M9 l0 (
  cL (F_XSearch_withInvariants n l0 (0 : Int32) v10 M9) (fun v12 M11 =>
  if (lg_cmp v12 (0 : Int64)) = (0 : Int32) then
    F_XSearch_findLeast_63 n l0 M11
  else
    kO 8 M11 l0 (
    cV (F_XSearch_giveNumbers n 8 l0 (0 : Int32) (0 : Int32) v12 M11) (fun M14 =>
    F_XSearch_findLeast_63 n l0 M14))))))))))))))))))
set_option maxHeartbeats 4000000 in
set_option maxRecDepth 100000 in
theorem E_XSearch_findLeast {g : qG} {X : qX} {Z : qZ} (hn : 12 ≤ zn Z) (hl : 320 ≤ zl Z) {n : Nat} {l0 : Nat} {l1 : Nat} {M : PM} (h : F_XSearch_findLeast n l0 l1 M = some (zr Z, zf Z)) : EW Y_XSearch_findLeast g X Z 0 [(0, .ref l0), (1, .ref l1)] [] M := by
  unfold F_XSearch_findLeast at h
  refine ew_aload_n 0 d_XSearch_findLeast_0 rfl rfl ?_
  refine ew_bipush (64) d_XSearch_findLeast_1 (by decide +kernel) ?_
  obtain ⟨M1, aM1, eM1, h⟩ := pF_inv h
  refine ew_pF 8 13 d_XSearch_findLeast_3 fl_XSearch_50 aM1 eM1 (fun ad => ⟨rfl, rfl⟩) ?_
  refine ew_aload_n 0 d_XSearch_findLeast_6 rfl rfl ?_
  refine ew_iconst (0) d_XSearch_findLeast_7 (by decide) ?_
  obtain ⟨M2, aM2, eM2, h⟩ := pF_inv h
  refine ew_pF 8 14 d_XSearch_findLeast_8 fl_XSearch_54 aM2 eM2 (fun ad => ⟨rfl, rfl⟩) ?_
  refine ew_aload_n 0 d_XSearch_findLeast_11 rfl rfl ?_
  refine ew_aload_n 1 d_XSearch_findLeast_12 rfl rfl ?_
  obtain ⟨kM3, h⟩ := kO_inv h
  obtain ⟨M3, hM3, h⟩ := cV_inv h
  refine ew_callV 8 [.ref l1] d_XSearch_findLeast_13 cv_XSearch_57 (T_XSearch_collect hM3) kM3 (Nat.le_trans (Nat.le_of_ble_eq_true rfl) hn) (Nat.le_trans (Nat.le_of_ble_eq_true rfl) hl) (Nat.le_of_ble_eq_true rfl) rfl rfl ?_
  refine ew_aload_n 0 d_XSearch_findLeast_16 rfl rfl ?_
  refine ew_aload_n 1 d_XSearch_findLeast_17 rfl rfl ?_
  obtain ⟨kM4, h⟩ := kO_inv h
  obtain ⟨M4, hM4, h⟩ := cV_inv h
  refine ew_callV 8 [.ref l1] d_XSearch_findLeast_18 cv_XSearch_61 (T_XSearch_setLevels hM4) kM4 (Nat.le_trans (Nat.le_of_ble_eq_true rfl) hn) (Nat.le_trans (Nat.le_of_ble_eq_true rfl) hl) (Nat.le_of_ble_eq_true rfl) rfl rfl ?_
  refine ew_aload_n 0 d_XSearch_findLeast_21 rfl rfl ?_
  refine ew_aload_n 1 d_XSearch_findLeast_22 rfl rfl ?_
  obtain ⟨kM5, h⟩ := kO_inv h
  obtain ⟨M5, hM5, h⟩ := cV_inv h
  refine ew_callV 8 [.ref l1] d_XSearch_findLeast_23 cv_XSearch_64 (T_XSearch_arrange hM5) kM5 (Nat.le_trans (Nat.le_of_ble_eq_true rfl) hn) (Nat.le_trans (Nat.le_of_ble_eq_true rfl) hl) (Nat.le_of_ble_eq_true rfl) rfl rfl ?_
  refine ew_aload_n 0 d_XSearch_findLeast_26 rfl rfl ?_
  obtain ⟨kM6, h⟩ := kO_inv h
  obtain ⟨M6, hM6, h⟩ := cV_inv h
  refine ew_callV 8 [] d_XSearch_findLeast_27 cv_XSearch_67 (T_XSearch_setTruths hM6) kM6 (Nat.le_trans (Nat.le_of_ble_eq_true rfl) hn) (Nat.le_trans (Nat.le_of_ble_eq_true rfl) hl) (Nat.le_of_ble_eq_true rfl) rfl rfl ?_
  refine ew_aload_n 0 d_XSearch_findLeast_30 rfl rfl ?_
  refine ew_iconst (0) d_XSearch_findLeast_31 (by decide) ?_
  obtain ⟨kM7, h⟩ := kO_inv h
  obtain ⟨M7, hM7, h⟩ := cV_inv h
  refine ew_callV 8 [.int (0 : Int32)] d_XSearch_findLeast_32 cv_XSearch_70 (T_XSearch_reckonLevel hM7) kM7 (Nat.le_trans (Nat.le_of_ble_eq_true rfl) hn) (Nat.le_trans (Nat.le_of_ble_eq_true rfl) hl) (Nat.le_of_ble_eq_true rfl) rfl rfl ?_
  refine ew_aload_n 0 d_XSearch_findLeast_35 rfl rfl ?_
  refine ew_iconst (0) d_XSearch_findLeast_36 (by decide) ?_
  refine ew_iconst (1) d_XSearch_findLeast_37 (by decide) ?_
  refine ew_aload_n 0 d_XSearch_findLeast_38 rfl rfl ?_
  obtain ⟨v8, av8, bv8, h⟩ := gI_inv h
  refine ew_gI 8 10 d_XSearch_findLeast_39 fl_XSearch_74 av8 bv8 ?_
  refine ew_ishl d_XSearch_findLeast_42 ?_
  obtain ⟨v10, M9, hM9, h⟩ := cL_inv h
  refine ew_callS [.int ((1 : Int32) <<< (v8 &&& 31))] d_XSearch_findLeast_43 cs_XSearch_77 (T_XSearch_statesBelow hM9) (Nat.le_trans (Nat.le_of_ble_eq_true rfl) hn) (Nat.le_trans (Nat.le_of_ble_eq_true rfl) hl) (Nat.le_of_ble_eq_true rfl) rfl rfl ?_
  obtain ⟨kM11, h⟩ := kO_inv h
  obtain ⟨v12, M11, hM11, h⟩ := cL_inv h
  refine ew_callV 8 [.int (0 : Int32), .long v10] d_XSearch_findLeast_46 cv_XSearch_81 (T_XSearch_withInvariants hM11) kM11 (Nat.le_trans (Nat.le_of_ble_eq_true rfl) hn) (Nat.le_trans (Nat.le_of_ble_eq_true rfl) hl) (Nat.le_of_ble_eq_true rfl) rfl rfl ?_
  refine ew_lstore_n (L' := [(0, .ref l0), (1, .ref l1), (2, .long v12)]) 2 [1, 2, 0] d_XSearch_findLeast_49 rfl (by decide) rfl ?_
  refine ew_lload_n 2 d_XSearch_findLeast_50 rfl rfl ?_
  refine ew_lconst 0 d_XSearch_findLeast_51 (by decide) ?_
  refine ew_lcmp d_XSearch_findLeast_52 ?_
  refine ew_if_eq 63 d_XSearch_findLeast_53 (by decide) (fun c13 => ?_) (fun c13 => ?_)
  · rw [if_pos c13] at h
    exact ew_pick (L' := [(0, .ref l0)]) [0] rfl (E_XSearch_findLeast_63 hn hl h)
  · rw [if_neg c13] at h
    refine ew_aload_n 0 d_XSearch_findLeast_56 rfl rfl ?_
    refine ew_iconst (0) d_XSearch_findLeast_57 (by decide) ?_
    refine ew_iconst (0) d_XSearch_findLeast_58 (by decide) ?_
    refine ew_lload_n 2 d_XSearch_findLeast_59 rfl rfl ?_
    obtain ⟨kM14, h⟩ := kO_inv h
    obtain ⟨M14, hM14, h⟩ := cV_inv h
    refine ew_callV 8 [.int (0 : Int32), .int (0 : Int32), .long v12] d_XSearch_findLeast_60 cv_XSearch_85 (T_XSearch_giveNumbers hM14) kM14 (Nat.le_trans (Nat.le_of_ble_eq_true rfl) hn) (Nat.le_trans (Nat.le_of_ble_eq_true rfl) hl) (Nat.le_of_ble_eq_true rfl) rfl rfl ?_
    exact ew_pick (L' := [(0, .ref l0)]) [0] rfl (E_XSearch_findLeast_63 hn hl h)
theorem T_XSearch_findLeast {n : Nat} {l0 : Nat} {l1 : Nat} {M Mf : PM} {res : qRs} (h : F_XSearch_findLeast n l0 l1 M = some (res, Mf)) : CT Y_XSearch_findLeast 12 320 [.ref l0, .ref l1] M res Mf :=
  CT_of (by decide) (Nat.le_of_ble_eq_true rfl) (qHd_ne (by decide)) (fun g X ad0 => E_XSearch_findLeast (g := g) (X := X) (Z := (ad0, M, res, Mf, 12, 320)) (Nat.le_refl _) (Nat.le_refl _) h)
theorem d_XSearch_tell_0 : decode Y_XSearch_tell.2.1 0 = .ok (.aload_n 0, 1) := by decide +kernel
theorem d_XSearch_tell_1 : decode Y_XSearch_tell.2.1 1 = .ok (.getfield 50, 3) := by decide +kernel
theorem d_XSearch_tell_4 : decode Y_XSearch_tell.2.1 4 = .ok (.bipush (64), 2) := by decide +kernel
theorem d_XSearch_tell_6 : decode Y_XSearch_tell.2.1 6 = .ok (.if_icmp .ne (4), 3) := by decide +kernel
theorem d_XSearch_tell_9 : decode Y_XSearch_tell.2.1 9 = .ok (.return_, 1) := by decide +kernel
theorem d_XSearch_tell_10 : decode Y_XSearch_tell.2.1 10 = .ok (.aload_n 1, 1) := by decide +kernel
theorem d_XSearch_tell_11 : decode Y_XSearch_tell.2.1 11 = .ok (.aload_n 0, 1) := by decide +kernel
theorem d_XSearch_tell_12 : decode Y_XSearch_tell.2.1 12 = .ok (.getfield 15, 3) := by decide +kernel
theorem d_XSearch_tell_15 : decode Y_XSearch_tell.2.1 15 = .ok (.getfield 89, 3) := by decide +kernel
theorem d_XSearch_tell_18 : decode Y_XSearch_tell.2.1 18 = .ok (.aload_n 0, 1) := by decide +kernel
theorem d_XSearch_tell_19 : decode Y_XSearch_tell.2.1 19 = .ok (.getfield 54, 3) := by decide +kernel
theorem d_XSearch_tell_22 : decode Y_XSearch_tell.2.1 22 = .ok (.iaload, 1) := by decide +kernel
theorem d_XSearch_tell_23 : decode Y_XSearch_tell.2.1 23 = .ok (.putfield 94, 3) := by decide +kernel
theorem d_XSearch_tell_26 : decode Y_XSearch_tell.2.1 26 = .ok (.iconst 0, 1) := by decide +kernel
theorem d_XSearch_tell_27 : decode Y_XSearch_tell.2.1 27 = .ok (.istore_n 2, 1) := by decide +kernel
theorem d_XSearch_tell_28 : decode Y_XSearch_tell.2.1 28 = .ok (.iload_n 2, 1) := by decide +kernel
theorem d_XSearch_tell_29 : decode Y_XSearch_tell.2.1 29 = .ok (.aload_n 0, 1) := by decide +kernel
theorem d_XSearch_tell_30 : decode Y_XSearch_tell.2.1 30 = .ok (.getfield 74, 3) := by decide +kernel
theorem d_XSearch_tell_33 : decode Y_XSearch_tell.2.1 33 = .ok (.if_icmp .ge (63), 3) := by decide +kernel
theorem d_XSearch_tell_36 : decode Y_XSearch_tell.2.1 36 = .ok (.aload_n 0, 1) := by decide +kernel
theorem d_XSearch_tell_37 : decode Y_XSearch_tell.2.1 37 = .ok (.getfield 50, 3) := by decide +kernel
theorem d_XSearch_tell_40 : decode Y_XSearch_tell.2.1 40 = .ok (.aload_n 0, 1) := by decide +kernel
theorem d_XSearch_tell_41 : decode Y_XSearch_tell.2.1 41 = .ok (.getfield 74, 3) := by decide +kernel
theorem d_XSearch_tell_44 : decode Y_XSearch_tell.2.1 44 = .ok (.iconst 1, 1) := by decide +kernel
theorem d_XSearch_tell_45 : decode Y_XSearch_tell.2.1 45 = .ok (.isub, 1) := by decide +kernel
theorem d_XSearch_tell_46 : decode Y_XSearch_tell.2.1 46 = .ok (.iload_n 2, 1) := by decide +kernel
theorem d_XSearch_tell_47 : decode Y_XSearch_tell.2.1 47 = .ok (.isub, 1) := by decide +kernel
theorem d_XSearch_tell_48 : decode Y_XSearch_tell.2.1 48 = .ok (.ishr, 1) := by decide +kernel
theorem d_XSearch_tell_49 : decode Y_XSearch_tell.2.1 49 = .ok (.iconst 1, 1) := by decide +kernel
theorem d_XSearch_tell_50 : decode Y_XSearch_tell.2.1 50 = .ok (.iand, 1) := by decide +kernel
theorem d_XSearch_tell_51 : decode Y_XSearch_tell.2.1 51 = .ok (.istore_n 3, 1) := by decide +kernel
theorem d_XSearch_tell_52 : decode Y_XSearch_tell.2.1 52 = .ok (.aload_n 0, 1) := by decide +kernel
theorem d_XSearch_tell_53 : decode Y_XSearch_tell.2.1 53 = .ok (.getfield 28, 3) := by decide +kernel
theorem d_XSearch_tell_56 : decode Y_XSearch_tell.2.1 56 = .ok (.iload_n 2, 1) := by decide +kernel
theorem d_XSearch_tell_57 : decode Y_XSearch_tell.2.1 57 = .ok (.iaload, 1) := by decide +kernel
theorem d_XSearch_tell_58 : decode Y_XSearch_tell.2.1 58 = .ok (.iconst 2, 1) := by decide +kernel
theorem d_XSearch_tell_59 : decode Y_XSearch_tell.2.1 59 = .ok (.if_icmp .ne (11), 3) := by decide +kernel
theorem d_XSearch_tell_62 : decode Y_XSearch_tell.2.1 62 = .ok (.aload_n 1, 1) := by decide +kernel
theorem d_XSearch_tell_63 : decode Y_XSearch_tell.2.1 63 = .ok (.iload_n 3, 1) := by decide +kernel
theorem d_XSearch_tell_64 : decode Y_XSearch_tell.2.1 64 = .ok (.putfield 99, 3) := by decide +kernel
theorem d_XSearch_tell_67 : decode Y_XSearch_tell.2.1 67 = .ok (.goto (23), 3) := by decide +kernel
theorem d_XSearch_tell_70 : decode Y_XSearch_tell.2.1 70 = .ok (.aload_n 1, 1) := by decide +kernel
theorem d_XSearch_tell_71 : decode Y_XSearch_tell.2.1 71 = .ok (.getfield 102, 3) := by decide +kernel
theorem d_XSearch_tell_74 : decode Y_XSearch_tell.2.1 74 = .ok (.aload_n 0, 1) := by decide +kernel
theorem d_XSearch_tell_75 : decode Y_XSearch_tell.2.1 75 = .ok (.getfield 9, 3) := by decide +kernel
theorem d_XSearch_tell_78 : decode Y_XSearch_tell.2.1 78 = .ok (.getfield 103, 3) := by decide +kernel
theorem d_XSearch_tell_81 : decode Y_XSearch_tell.2.1 81 = .ok (.aload_n 0, 1) := by decide +kernel
theorem d_XSearch_tell_82 : decode Y_XSearch_tell.2.1 82 = .ok (.getfield 28, 3) := by decide +kernel
theorem d_XSearch_tell_85 : decode Y_XSearch_tell.2.1 85 = .ok (.iload_n 2, 1) := by decide +kernel
theorem d_XSearch_tell_86 : decode Y_XSearch_tell.2.1 86 = .ok (.iaload, 1) := by decide +kernel
theorem d_XSearch_tell_87 : decode Y_XSearch_tell.2.1 87 = .ok (.iaload, 1) := by decide +kernel
theorem d_XSearch_tell_88 : decode Y_XSearch_tell.2.1 88 = .ok (.iload_n 3, 1) := by decide +kernel
theorem d_XSearch_tell_89 : decode Y_XSearch_tell.2.1 89 = .ok (.iastore, 1) := by decide +kernel
theorem d_XSearch_tell_90 : decode Y_XSearch_tell.2.1 90 = .ok (.iinc 2 (1), 3) := by decide +kernel
theorem d_XSearch_tell_93 : decode Y_XSearch_tell.2.1 93 = .ok (.goto (-65), 3) := by decide +kernel
theorem d_XSearch_tell_96 : decode Y_XSearch_tell.2.1 96 = .ok (.iconst 0, 1) := by decide +kernel
theorem d_XSearch_tell_97 : decode Y_XSearch_tell.2.1 97 = .ok (.istore_n 2, 1) := by decide +kernel
theorem d_XSearch_tell_98 : decode Y_XSearch_tell.2.1 98 = .ok (.iload_n 2, 1) := by decide +kernel
theorem d_XSearch_tell_99 : decode Y_XSearch_tell.2.1 99 = .ok (.aload_n 0, 1) := by decide +kernel
theorem d_XSearch_tell_100 : decode Y_XSearch_tell.2.1 100 = .ok (.getfield 108, 3) := by decide +kernel
theorem d_XSearch_tell_103 : decode Y_XSearch_tell.2.1 103 = .ok (.if_icmp .ge (34), 3) := by decide +kernel
theorem d_XSearch_tell_106 : decode Y_XSearch_tell.2.1 106 = .ok (.aload_n 1, 1) := by decide +kernel
theorem d_XSearch_tell_107 : decode Y_XSearch_tell.2.1 107 = .ok (.getfield 102, 3) := by decide +kernel
theorem d_XSearch_tell_110 : decode Y_XSearch_tell.2.1 110 = .ok (.aload_n 0, 1) := by decide +kernel
theorem d_XSearch_tell_111 : decode Y_XSearch_tell.2.1 111 = .ok (.getfield 9, 3) := by decide +kernel
theorem d_XSearch_tell_114 : decode Y_XSearch_tell.2.1 114 = .ok (.getfield 103, 3) := by decide +kernel
theorem d_XSearch_tell_117 : decode Y_XSearch_tell.2.1 117 = .ok (.aload_n 0, 1) := by decide +kernel
theorem d_XSearch_tell_118 : decode Y_XSearch_tell.2.1 118 = .ok (.getfield 32, 3) := by decide +kernel
theorem d_XSearch_tell_121 : decode Y_XSearch_tell.2.1 121 = .ok (.iload_n 2, 1) := by decide +kernel
theorem d_XSearch_tell_122 : decode Y_XSearch_tell.2.1 122 = .ok (.iaload, 1) := by decide +kernel
theorem d_XSearch_tell_123 : decode Y_XSearch_tell.2.1 123 = .ok (.iaload, 1) := by decide +kernel
theorem d_XSearch_tell_124 : decode Y_XSearch_tell.2.1 124 = .ok (.aload_n 0, 1) := by decide +kernel
theorem d_XSearch_tell_125 : decode Y_XSearch_tell.2.1 125 = .ok (.getfield 47, 3) := by decide +kernel
theorem d_XSearch_tell_128 : decode Y_XSearch_tell.2.1 128 = .ok (.iload_n 2, 1) := by decide +kernel
theorem d_XSearch_tell_129 : decode Y_XSearch_tell.2.1 129 = .ok (.iaload, 1) := by decide +kernel
theorem d_XSearch_tell_130 : decode Y_XSearch_tell.2.1 130 = .ok (.iastore, 1) := by decide +kernel
theorem d_XSearch_tell_131 : decode Y_XSearch_tell.2.1 131 = .ok (.iinc 2 (1), 3) := by decide +kernel
theorem d_XSearch_tell_134 : decode Y_XSearch_tell.2.1 134 = .ok (.goto (-36), 3) := by decide +kernel
theorem d_XSearch_tell_137 : decode Y_XSearch_tell.2.1 137 = .ok (.return_, 1) := by decide +kernel
def F_XSearch_tell_90 (n : Nat) (rec28 : Nat → Nat → Int32 → PM → qO) (l0 : Nat) (l1 : Nat) (l2 : Int32) (M : PM) : qO :=
  bI (l2 + (1 : Int32)) (fun v1 =>
  rec28 l0 l1 v1 M)
set_option maxHeartbeats 4000000 in
set_option maxRecDepth 100000 in
theorem E_XSearch_tell_90 {g : qG} {X : qX} {Z : qZ} (hn : 0 ≤ zn Z) (hl : 0 ≤ zl Z) {n : Nat} {rec28 : Nat → Nat → Int32 → PM → qO} (hrec28 : ∀ (l0 : Nat) (l1 : Nat) (l2 : Int32) (M : PM), rec28 l0 l1 l2 M = some (zr Z, zf Z) → EW Y_XSearch_tell g X Z 28 [(0, .ref l0), (1, .ref l1), (2, .int l2)] [] M) {l0 : Nat} {l1 : Nat} {l2 : Int32} {M : PM} (h : F_XSearch_tell_90 n rec28 l0 l1 l2 M = some (zr Z, zf Z)) : EW Y_XSearch_tell g X Z 90 [(0, .ref l0), (1, .ref l1), (2, .int l2)] [] M := by
  unfold F_XSearch_tell_90 at h
  obtain ⟨v1, ev1, h⟩ := bI_inv h
  refine ew_iinc (L' := [(0, .ref l0), (1, .ref l1), (2, .int v1)]) v1 [1, 2, 0] d_XSearch_tell_90 rfl (by rw [ev1]; rfl) (by decide) rfl ?_
  refine ew_goto 28 d_XSearch_tell_93 (by decide) ?_
  exact hrec28 l0 l1 v1 M h
def F_XSearch_tell_98 (n : Nat) : Nat → Nat → Nat → Int32 → PM → qO
  | 0, _, _, _, _ => none
  | f + 1, l0, l1, l2, M =>
    gI 8 M l0 12 (fun v1 =>
    if v1 ≤ l2 then
      some (.inl none, M)
    else
      gR 4 M l1 0 (fun v3 =>
      gR 8 M l0 0 (fun v4 =>
      gR 3 M v4 1 (fun v5 =>
      gR 8 M l0 4 (fun v6 =>
      lI M v6 l2 (fun v7 =>
      lI M v5 v7 (fun v8 =>
      gR 8 M l0 9 (fun v9 =>
      lI M v9 l2 (fun v10 =>
      wI M v3 v8 v10 (fun M11 =>
      bI (l2 + (1 : Int32)) (fun v12 =>
      (F_XSearch_tell_98 n f) l0 l1 v12 M11)))))))))))
set_option maxHeartbeats 4000000 in
set_option maxRecDepth 100000 in
theorem E_XSearch_tell_98 {g : qG} {X : qX} {Z : qZ} (hn : 0 ≤ zn Z) (hl : 0 ≤ zl Z) {n : Nat} : ∀ (f : Nat) (l0 : Nat) (l1 : Nat) (l2 : Int32) (M : PM), F_XSearch_tell_98 n f l0 l1 l2 M = some (zr Z, zf Z) → EW Y_XSearch_tell g X Z 98 [(0, .ref l0), (1, .ref l1), (2, .int l2)] [] M := by
  intro f
  induction f with
  | zero => intro l0 l1 l2 M h; rw [F_XSearch_tell_98] at h; cases h
  | succ f ih =>
    intro l0 l1 l2 M h
    rw [F_XSearch_tell_98] at h
    refine ew_iload_n 2 d_XSearch_tell_98 rfl rfl ?_
    refine ew_aload_n 0 d_XSearch_tell_99 rfl rfl ?_
    obtain ⟨v1, av1, bv1, h⟩ := gI_inv h
    refine ew_gI 8 12 d_XSearch_tell_100 fl_XSearch_108 av1 bv1 ?_
    refine ew_icmp_ge 137 d_XSearch_tell_103 (by decide) (fun c2 => ?_) (fun c2 => ?_)
    · rw [if_pos c2] at h
      obtain ⟨hz, hm⟩ := Prod.mk.inj (Option.some.inj h)
      exact ew_return d_XSearch_tell_137 rfl hz.symm hm.symm
    · rw [if_neg c2] at h
      refine ew_aload_n 1 d_XSearch_tell_106 rfl rfl ?_
      obtain ⟨v3, av3, bv3, h⟩ := gR_inv h
      refine ew_gR 4 0 d_XSearch_tell_107 fl_XSearch_102 av3 bv3 ?_
      refine ew_aload_n 0 d_XSearch_tell_110 rfl rfl ?_
      obtain ⟨v4, av4, bv4, h⟩ := gR_inv h
      refine ew_gR 8 0 d_XSearch_tell_111 fl_XSearch_9 av4 bv4 ?_
      obtain ⟨v5, av5, bv5, h⟩ := gR_inv h
      refine ew_gR 3 1 d_XSearch_tell_114 fl_XSearch_103 av5 bv5 ?_
      refine ew_aload_n 0 d_XSearch_tell_117 rfl rfl ?_
      obtain ⟨v6, av6, bv6, h⟩ := gR_inv h
      refine ew_gR 8 4 d_XSearch_tell_118 fl_XSearch_32 av6 bv6 ?_
      refine ew_iload_n 2 d_XSearch_tell_121 rfl rfl ?_
      obtain ⟨v7, av7, bv7, cv7, ev7, h⟩ := lI_inv h
      refine ew_lI d_XSearch_tell_122 av7 bv7 cv7 ev7 ?_
      obtain ⟨v8, av8, bv8, cv8, ev8, h⟩ := lI_inv h
      refine ew_lI d_XSearch_tell_123 av8 bv8 cv8 ev8 ?_
      refine ew_aload_n 0 d_XSearch_tell_124 rfl rfl ?_
      obtain ⟨v9, av9, bv9, h⟩ := gR_inv h
      refine ew_gR 8 9 d_XSearch_tell_125 fl_XSearch_47 av9 bv9 ?_
      refine ew_iload_n 2 d_XSearch_tell_128 rfl rfl ?_
      obtain ⟨v10, av10, bv10, cv10, ev10, h⟩ := lI_inv h
      refine ew_lI d_XSearch_tell_129 av10 bv10 cv10 ev10 ?_
      obtain ⟨M11, aM11, bM11, cM11, eM11, h⟩ := wI_inv h
      refine ew_wI d_XSearch_tell_130 aM11 bM11 cM11 eM11 ?_
      obtain ⟨v12, ev12, h⟩ := bI_inv h
      refine ew_iinc (L' := [(0, .ref l0), (1, .ref l1), (2, .int v12)]) v12 [1, 2, 0] d_XSearch_tell_131 rfl (by rw [ev12]; rfl) (by decide) rfl ?_
      refine ew_goto 98 d_XSearch_tell_134 (by decide) ?_
      exact ih l0 l1 v12 M11 h
def F_XSearch_tell_28 (n : Nat) : Nat → Nat → Nat → Int32 → PM → qO
  | 0, _, _, _, _ => none
  | f + 1, l0, l1, l2, M =>
    gI 8 M l0 10 (fun v1 =>
    if v1 ≤ l2 then
      F_XSearch_tell_98 n n l0 l1 (0 : Int32) M
    else
      gI 8 M l0 13 (fun v3 =>
      gI 8 M l0 10 (fun v4 =>
      bI ((v3 >>> (((v4 - (1 : Int32)) - l2) &&& 31)) &&& (1 : Int32)) (fun v5 =>
      gR 8 M l0 3 (fun v6 =>
      lI M v6 l2 (fun v7 =>
      if v7 = (2 : Int32) then
        pF 4 M l1 3 (.int v5) (fun M16 =>
        F_XSearch_tell_90 n (F_XSearch_tell_28 n f) l0 l1 l2 M16)
      else
        gR 4 M l1 0 (fun v9 =>
        gR 8 M l0 0 (fun v10 =>
        gR 3 M v10 1 (fun v11 =>
        gR 8 M l0 3 (fun v12 =>
        lI M v12 l2 (fun v13 =>
        lI M v11 v13 (fun v14 =>
        wI M v9 v14 v5 (fun M15 =>
        F_XSearch_tell_90 n (F_XSearch_tell_28 n f) l0 l1 l2 M15)))))))))))))
set_option maxHeartbeats 4000000 in
set_option maxRecDepth 100000 in
theorem E_XSearch_tell_28 {g : qG} {X : qX} {Z : qZ} (hn : 0 ≤ zn Z) (hl : 0 ≤ zl Z) {n : Nat} : ∀ (f : Nat) (l0 : Nat) (l1 : Nat) (l2 : Int32) (M : PM), F_XSearch_tell_28 n f l0 l1 l2 M = some (zr Z, zf Z) → EW Y_XSearch_tell g X Z 28 [(0, .ref l0), (1, .ref l1), (2, .int l2)] [] M := by
  intro f
  induction f with
  | zero => intro l0 l1 l2 M h; rw [F_XSearch_tell_28] at h; cases h
  | succ f ih =>
    intro l0 l1 l2 M h
    rw [F_XSearch_tell_28] at h
    refine ew_iload_n 2 d_XSearch_tell_28 rfl rfl ?_
    refine ew_aload_n 0 d_XSearch_tell_29 rfl rfl ?_
    obtain ⟨v1, av1, bv1, h⟩ := gI_inv h
    refine ew_gI 8 10 d_XSearch_tell_30 fl_XSearch_74 av1 bv1 ?_
    refine ew_icmp_ge 96 d_XSearch_tell_33 (by decide) (fun c2 => ?_) (fun c2 => ?_)
    · rw [if_pos c2] at h
      refine ew_iconst (0) d_XSearch_tell_96 (by decide) ?_
      refine ew_istore_n (L' := [(0, .ref l0), (1, .ref l1), (2, .int (0 : Int32))]) 2 [1, 2, 0] d_XSearch_tell_97 rfl (by decide) rfl ?_
      exact E_XSearch_tell_98 hn hl n l0 l1 (0 : Int32) M h
    · rw [if_neg c2] at h
      refine ew_aload_n 0 d_XSearch_tell_36 rfl rfl ?_
      obtain ⟨v3, av3, bv3, h⟩ := gI_inv h
      refine ew_gI 8 13 d_XSearch_tell_37 fl_XSearch_50 av3 bv3 ?_
      refine ew_aload_n 0 d_XSearch_tell_40 rfl rfl ?_
      obtain ⟨v4, av4, bv4, h⟩ := gI_inv h
      refine ew_gI 8 10 d_XSearch_tell_41 fl_XSearch_74 av4 bv4 ?_
      refine ew_iconst (1) d_XSearch_tell_44 (by decide) ?_
      refine ew_isub d_XSearch_tell_45 ?_
      refine ew_iload_n 2 d_XSearch_tell_46 rfl rfl ?_
      refine ew_isub d_XSearch_tell_47 ?_
      refine ew_ishr d_XSearch_tell_48 ?_
      refine ew_iconst (1) d_XSearch_tell_49 (by decide) ?_
      refine ew_iand d_XSearch_tell_50 ?_
      obtain ⟨v5, ev5, h⟩ := bI_inv h
      refine ew_topI ev5 ?_
      refine ew_istore_n (L' := [(0, .ref l0), (1, .ref l1), (2, .int l2), (3, .int v5)]) 3 [1, 2, 3, 0] d_XSearch_tell_51 rfl (by decide) rfl ?_
      refine ew_aload_n 0 d_XSearch_tell_52 rfl rfl ?_
      obtain ⟨v6, av6, bv6, h⟩ := gR_inv h
      refine ew_gR 8 3 d_XSearch_tell_53 fl_XSearch_28 av6 bv6 ?_
      refine ew_iload_n 2 d_XSearch_tell_56 rfl rfl ?_
      obtain ⟨v7, av7, bv7, cv7, ev7, h⟩ := lI_inv h
      refine ew_lI d_XSearch_tell_57 av7 bv7 cv7 ev7 ?_
      refine ew_iconst (2) d_XSearch_tell_58 (by decide) ?_
      refine ew_icmp_ne 70 d_XSearch_tell_59 (by decide) (fun c8 => ?_) (fun c8 => ?_)
      · rw [if_neg c8] at h
        refine ew_aload_n 1 d_XSearch_tell_70 rfl rfl ?_
        obtain ⟨v9, av9, bv9, h⟩ := gR_inv h
        refine ew_gR 4 0 d_XSearch_tell_71 fl_XSearch_102 av9 bv9 ?_
        refine ew_aload_n 0 d_XSearch_tell_74 rfl rfl ?_
        obtain ⟨v10, av10, bv10, h⟩ := gR_inv h
        refine ew_gR 8 0 d_XSearch_tell_75 fl_XSearch_9 av10 bv10 ?_
        obtain ⟨v11, av11, bv11, h⟩ := gR_inv h
        refine ew_gR 3 1 d_XSearch_tell_78 fl_XSearch_103 av11 bv11 ?_
        refine ew_aload_n 0 d_XSearch_tell_81 rfl rfl ?_
        obtain ⟨v12, av12, bv12, h⟩ := gR_inv h
        refine ew_gR 8 3 d_XSearch_tell_82 fl_XSearch_28 av12 bv12 ?_
        refine ew_iload_n 2 d_XSearch_tell_85 rfl rfl ?_
        obtain ⟨v13, av13, bv13, cv13, ev13, h⟩ := lI_inv h
        refine ew_lI d_XSearch_tell_86 av13 bv13 cv13 ev13 ?_
        obtain ⟨v14, av14, bv14, cv14, ev14, h⟩ := lI_inv h
        refine ew_lI d_XSearch_tell_87 av14 bv14 cv14 ev14 ?_
        refine ew_iload_n 3 d_XSearch_tell_88 rfl rfl ?_
        obtain ⟨M15, aM15, bM15, cM15, eM15, h⟩ := wI_inv h
        refine ew_wI d_XSearch_tell_89 aM15 bM15 cM15 eM15 ?_
        exact ew_pick (L' := [(0, .ref l0), (1, .ref l1), (2, .int l2)]) [0, 1, 2] rfl (E_XSearch_tell_90 hn hl ih h)
      · rw [if_pos c8] at h
        refine ew_aload_n 1 d_XSearch_tell_62 rfl rfl ?_
        refine ew_iload_n 3 d_XSearch_tell_63 rfl rfl ?_
        obtain ⟨M16, aM16, eM16, h⟩ := pF_inv h
        refine ew_pF 4 3 d_XSearch_tell_64 fl_XSearch_99 aM16 eM16 (fun ad => ⟨rfl, rfl⟩) ?_
        refine ew_goto 90 d_XSearch_tell_67 (by decide) ?_
        exact ew_pick (L' := [(0, .ref l0), (1, .ref l1), (2, .int l2)]) [0, 1, 2] rfl (E_XSearch_tell_90 hn hl ih h)
def F_XSearch_tell (n : Nat) (l0 : Nat) (l1 : Nat) (M : PM) : qO :=
  gI 8 M l0 13 (fun v1 =>
  if v1 = (64 : Int32) then
    some (.inl none, M)
  else
    gR 8 M l0 1 (fun v3 =>
    gR 7 M v3 2 (fun v4 =>
    gI 8 M l0 14 (fun v5 =>
    lI M v4 v5 (fun v6 =>
    pF 4 M l1 4 (.int v6) (fun M7 =>
    F_XSearch_tell_28 n n l0 l1 (0 : Int32) M7))))))
set_option maxHeartbeats 4000000 in
set_option maxRecDepth 100000 in
theorem E_XSearch_tell {g : qG} {X : qX} {Z : qZ} (hn : 0 ≤ zn Z) (hl : 0 ≤ zl Z) {n : Nat} {l0 : Nat} {l1 : Nat} {M : PM} (h : F_XSearch_tell n l0 l1 M = some (zr Z, zf Z)) : EW Y_XSearch_tell g X Z 0 [(0, .ref l0), (1, .ref l1)] [] M := by
  unfold F_XSearch_tell at h
  refine ew_aload_n 0 d_XSearch_tell_0 rfl rfl ?_
  obtain ⟨v1, av1, bv1, h⟩ := gI_inv h
  refine ew_gI 8 13 d_XSearch_tell_1 fl_XSearch_50 av1 bv1 ?_
  refine ew_bipush (64) d_XSearch_tell_4 (by decide +kernel) ?_
  refine ew_icmp_ne 10 d_XSearch_tell_6 (by decide) (fun c2 => ?_) (fun c2 => ?_)
  · rw [if_neg c2] at h
    refine ew_aload_n 1 d_XSearch_tell_10 rfl rfl ?_
    refine ew_aload_n 0 d_XSearch_tell_11 rfl rfl ?_
    obtain ⟨v3, av3, bv3, h⟩ := gR_inv h
    refine ew_gR 8 1 d_XSearch_tell_12 fl_XSearch_15 av3 bv3 ?_
    obtain ⟨v4, av4, bv4, h⟩ := gR_inv h
    refine ew_gR 7 2 d_XSearch_tell_15 fl_XSearch_89 av4 bv4 ?_
    refine ew_aload_n 0 d_XSearch_tell_18 rfl rfl ?_
    obtain ⟨v5, av5, bv5, h⟩ := gI_inv h
    refine ew_gI 8 14 d_XSearch_tell_19 fl_XSearch_54 av5 bv5 ?_
    obtain ⟨v6, av6, bv6, cv6, ev6, h⟩ := lI_inv h
    refine ew_lI d_XSearch_tell_22 av6 bv6 cv6 ev6 ?_
    obtain ⟨M7, aM7, eM7, h⟩ := pF_inv h
    refine ew_pF 4 4 d_XSearch_tell_23 fl_XSearch_94 aM7 eM7 (fun ad => ⟨rfl, rfl⟩) ?_
    refine ew_iconst (0) d_XSearch_tell_26 (by decide) ?_
    refine ew_istore_n (L' := [(0, .ref l0), (1, .ref l1), (2, .int (0 : Int32))]) 2 [1, 2, 0] d_XSearch_tell_27 rfl (by decide) rfl ?_
    exact E_XSearch_tell_28 hn hl n l0 l1 (0 : Int32) M7 h
  · rw [if_pos c2] at h
    obtain ⟨hz, hm⟩ := Prod.mk.inj (Option.some.inj h)
    exact ew_return d_XSearch_tell_9 rfl hz.symm hm.symm
theorem T_XSearch_tell {n : Nat} {l0 : Nat} {l1 : Nat} {M Mf : PM} {res : qRs} (h : F_XSearch_tell n l0 l1 M = some (res, Mf)) : CT Y_XSearch_tell 0 0 [.ref l0, .ref l1] M res Mf :=
  CT_of (by decide) (Nat.le_of_ble_eq_true rfl) (qHd_ne (by decide)) (fun g X ad0 => E_XSearch_tell (g := g) (X := X) (Z := (ad0, M, res, Mf, 0, 0)) (Nat.le_refl _) (Nat.le_refl _) h)
theorem d_XProver_decide_0 : decode Y_XProver_decide.2.1 0 = .ok (.aload_n 1, 1) := by decide +kernel
theorem d_XProver_decide_1 : decode Y_XProver_decide.2.1 1 = .ok (.invokevirtual 160, 3) := by decide +kernel
theorem d_XProver_decide_4 : decode Y_XProver_decide.2.1 4 = .ok (.ifCond .eq (11), 3) := by decide +kernel
theorem d_XProver_decide_7 : decode Y_XProver_decide.2.1 7 = .ok (.aload_n 1, 1) := by decide +kernel
theorem d_XProver_decide_8 : decode Y_XProver_decide.2.1 8 = .ok (.iconst 2, 1) := by decide +kernel
theorem d_XProver_decide_9 : decode Y_XProver_decide.2.1 9 = .ok (.putfield 164, 3) := by decide +kernel
theorem d_XProver_decide_12 : decode Y_XProver_decide.2.1 12 = .ok (.goto (56), 3) := by decide +kernel
theorem d_XProver_decide_15 : decode Y_XProver_decide.2.1 15 = .ok (.aload_n 0, 1) := by decide +kernel
theorem d_XProver_decide_16 : decode Y_XProver_decide.2.1 16 = .ok (.getfield 23, 3) := by decide +kernel
theorem d_XProver_decide_19 : decode Y_XProver_decide.2.1 19 = .ok (.getfield 167, 3) := by decide +kernel
theorem d_XProver_decide_22 : decode Y_XProver_decide.2.1 22 = .ok (.ifCond .ne (11), 3) := by decide +kernel
theorem d_XProver_decide_25 : decode Y_XProver_decide.2.1 25 = .ok (.aload_n 1, 1) := by decide +kernel
theorem d_XProver_decide_26 : decode Y_XProver_decide.2.1 26 = .ok (.iconst 1, 1) := by decide +kernel
theorem d_XProver_decide_27 : decode Y_XProver_decide.2.1 27 = .ok (.putfield 164, 3) := by decide +kernel
theorem d_XProver_decide_30 : decode Y_XProver_decide.2.1 30 = .ok (.goto (38), 3) := by decide +kernel
theorem d_XProver_decide_33 : decode Y_XProver_decide.2.1 33 = .ok (.aload_n 0, 1) := by decide +kernel
theorem d_XProver_decide_34 : decode Y_XProver_decide.2.1 34 = .ok (.invokevirtual 170, 3) := by decide +kernel
theorem d_XProver_decide_37 : decode Y_XProver_decide.2.1 37 = .ok (.aload_n 1, 1) := by decide +kernel
theorem d_XProver_decide_38 : decode Y_XProver_decide.2.1 38 = .ok (.aload_n 0, 1) := by decide +kernel
theorem d_XProver_decide_39 : decode Y_XProver_decide.2.1 39 = .ok (.getfield 32, 3) := by decide +kernel
theorem d_XProver_decide_42 : decode Y_XProver_decide.2.1 42 = .ok (.aload_n 0, 1) := by decide +kernel
theorem d_XProver_decide_43 : decode Y_XProver_decide.2.1 43 = .ok (.getfield 36, 3) := by decide +kernel
theorem d_XProver_decide_46 : decode Y_XProver_decide.2.1 46 = .ok (.invokevirtual 173, 3) := by decide +kernel
theorem d_XProver_decide_49 : decode Y_XProver_decide.2.1 49 = .ok (.ifCond .eq (7), 3) := by decide +kernel
theorem d_XProver_decide_52 : decode Y_XProver_decide.2.1 52 = .ok (.iconst 0, 1) := by decide +kernel
theorem d_XProver_decide_53 : decode Y_XProver_decide.2.1 53 = .ok (.goto (4), 3) := by decide +kernel
theorem d_XProver_decide_56 : decode Y_XProver_decide.2.1 56 = .ok (.iconst 1, 1) := by decide +kernel
theorem d_XProver_decide_57 : decode Y_XProver_decide.2.1 57 = .ok (.putfield 164, 3) := by decide +kernel
theorem d_XProver_decide_60 : decode Y_XProver_decide.2.1 60 = .ok (.aload_n 0, 1) := by decide +kernel
theorem d_XProver_decide_61 : decode Y_XProver_decide.2.1 61 = .ok (.getfield 32, 3) := by decide +kernel
theorem d_XProver_decide_64 : decode Y_XProver_decide.2.1 64 = .ok (.aload_n 1, 1) := by decide +kernel
theorem d_XProver_decide_65 : decode Y_XProver_decide.2.1 65 = .ok (.invokevirtual 177, 3) := by decide +kernel
theorem d_XProver_decide_68 : decode Y_XProver_decide.2.1 68 = .ok (.return_, 1) := by decide +kernel
def F_XProver_decide_68 (n : Nat) (M : PM) : qO :=
  some (.inl none, M)
set_option maxHeartbeats 4000000 in
set_option maxRecDepth 100000 in
theorem E_XProver_decide_68 {g : qG} {X : qX} {Z : qZ} (hn : 13 ≤ zn Z) (hl : 343 ≤ zl Z) {n : Nat} {M : PM} (h : F_XProver_decide_68 n M = some (zr Z, zf Z)) : EW Y_XProver_decide g X Z 68 [] [] M := by
  unfold F_XProver_decide_68 at h
  obtain ⟨hz, hm⟩ := Prod.mk.inj (Option.some.inj h)
  exact ew_return d_XProver_decide_68 rfl hz.symm hm.symm
def F_XProver_decide_57 (n : Nat) (l0 : Nat) (l1 : Nat) (s0 : Nat) (s1 : Int32) (M : PM) : qO :=
  pF 4 M s0 1 (.int s1) (fun M1 =>
  gR 6 M1 l0 2 (fun v2 =>
  kO 8 M1 v2 (
  cV (F_XSearch_tell n v2 l1 M1) (fun M3 =>
  F_XProver_decide_68 n M3))))
set_option maxHeartbeats 4000000 in
set_option maxRecDepth 100000 in
theorem E_XProver_decide_57 {g : qG} {X : qX} {Z : qZ} (hn : 13 ≤ zn Z) (hl : 343 ≤ zl Z) {n : Nat} {l0 : Nat} {l1 : Nat} {s0 : Nat} {s1 : Int32} {M : PM} (h : F_XProver_decide_57 n l0 l1 s0 s1 M = some (zr Z, zf Z)) : EW Y_XProver_decide g X Z 57 [(0, .ref l0), (1, .ref l1)] [.int s1, .ref s0] M := by
  unfold F_XProver_decide_57 at h
  obtain ⟨M1, aM1, eM1, h⟩ := pF_inv h
  refine ew_pF 4 1 d_XProver_decide_57 fl_XProver_164 aM1 eM1 (fun ad => ⟨rfl, rfl⟩) ?_
  refine ew_aload_n 0 d_XProver_decide_60 rfl rfl ?_
  obtain ⟨v2, av2, bv2, h⟩ := gR_inv h
  refine ew_gR 6 2 d_XProver_decide_61 fl_XProver_32 av2 bv2 ?_
  refine ew_aload_n 1 d_XProver_decide_64 rfl rfl ?_
  obtain ⟨kM3, h⟩ := kO_inv h
  obtain ⟨M3, hM3, h⟩ := cV_inv h
  refine ew_callV 8 [.ref l1] d_XProver_decide_65 cv_XProver_177 (T_XSearch_tell hM3) kM3 (Nat.le_trans (Nat.le_of_ble_eq_true rfl) hn) (Nat.le_trans (Nat.le_of_ble_eq_true rfl) hl) (Nat.le_of_ble_eq_true rfl) rfl rfl ?_
  exact ew_pick (L' := []) [] rfl (E_XProver_decide_68 hn hl h)
def F_XProver_decide (n : Nat) (l0 : Nat) (l1 : Nat) (M : PM) : qO :=
  kO 4 M l1 (
  cI (F_XOutcome_isTooLarge n l1 M) (fun v2 M1 =>
  if v2 = (0 : Int32) then
    gR 6 M1 l0 1 (fun v4 =>
    gI 7 M1 v4 4 (fun v5 =>
    if v5 = (0 : Int32) then
      pF 4 M1 l1 1 (.int (1 : Int32)) (fun M13 =>
      F_XProver_decide_68 n M13)
    else
      kO 6 M1 l0 (
      cV (F_XProver_markNeeded n l0 M1) (fun M7 =>
      gR 6 M7 l0 2 (fun v8 =>
      gR 6 M7 l0 3 (fun v9 =>
      kO 8 M7 v8 (
      cI (F_XSearch_findLeast n v8 v9 M7) (fun v11 M10 =>
      if v11 = (0 : Int32) then
        F_XProver_decide_57 n l0 l1 l1 (1 : Int32) M10
      else
        F_XProver_decide_57 n l0 l1 l1 (0 : Int32) M10))))))))
  else
    pF 4 M1 l1 1 (.int (2 : Int32)) (fun M14 =>
    F_XProver_decide_68 n M14)))
set_option maxHeartbeats 4000000 in
set_option maxRecDepth 100000 in
theorem E_XProver_decide {g : qG} {X : qX} {Z : qZ} (hn : 13 ≤ zn Z) (hl : 343 ≤ zl Z) {n : Nat} {l0 : Nat} {l1 : Nat} {M : PM} (h : F_XProver_decide n l0 l1 M = some (zr Z, zf Z)) : EW Y_XProver_decide g X Z 0 [(0, .ref l0), (1, .ref l1)] [] M := by
  unfold F_XProver_decide at h
  refine ew_aload_n 1 d_XProver_decide_0 rfl rfl ?_
  obtain ⟨kM1, h⟩ := kO_inv h
  obtain ⟨v2, M1, hM1, h⟩ := cI_inv h
  refine ew_callV 4 [] d_XProver_decide_1 cv_XProver_160 (T_XOutcome_isTooLarge hM1) kM1 (Nat.le_trans (Nat.le_of_ble_eq_true rfl) hn) (Nat.le_trans (Nat.le_of_ble_eq_true rfl) hl) (Nat.le_of_ble_eq_true rfl) rfl rfl ?_
  refine ew_if_eq 15 d_XProver_decide_4 (by decide) (fun c3 => ?_) (fun c3 => ?_)
  · rw [if_pos c3] at h
    refine ew_aload_n 0 d_XProver_decide_15 rfl rfl ?_
    obtain ⟨v4, av4, bv4, h⟩ := gR_inv h
    refine ew_gR 6 1 d_XProver_decide_16 fl_XProver_23 av4 bv4 ?_
    obtain ⟨v5, av5, bv5, h⟩ := gI_inv h
    refine ew_gI 7 4 d_XProver_decide_19 fl_XProver_167 av5 bv5 ?_
    refine ew_if_ne 33 d_XProver_decide_22 (by decide) (fun c6 => ?_) (fun c6 => ?_)
    · rw [if_neg c6] at h
      refine ew_aload_n 0 d_XProver_decide_33 rfl rfl ?_
      obtain ⟨kM7, h⟩ := kO_inv h
      obtain ⟨M7, hM7, h⟩ := cV_inv h
      refine ew_callV 6 [] d_XProver_decide_34 cv_XProver_170 (T_XProver_markNeeded hM7) kM7 (Nat.le_trans (Nat.le_of_ble_eq_true rfl) hn) (Nat.le_trans (Nat.le_of_ble_eq_true rfl) hl) (Nat.le_of_ble_eq_true rfl) rfl rfl ?_
      refine ew_aload_n 1 d_XProver_decide_37 rfl rfl ?_
      refine ew_aload_n 0 d_XProver_decide_38 rfl rfl ?_
      obtain ⟨v8, av8, bv8, h⟩ := gR_inv h
      refine ew_gR 6 2 d_XProver_decide_39 fl_XProver_32 av8 bv8 ?_
      refine ew_aload_n 0 d_XProver_decide_42 rfl rfl ?_
      obtain ⟨v9, av9, bv9, h⟩ := gR_inv h
      refine ew_gR 6 3 d_XProver_decide_43 fl_XProver_36 av9 bv9 ?_
      obtain ⟨kM10, h⟩ := kO_inv h
      obtain ⟨v11, M10, hM10, h⟩ := cI_inv h
      refine ew_callV 8 [.ref v9] d_XProver_decide_46 cv_XProver_173 (T_XSearch_findLeast hM10) kM10 (Nat.le_trans (Nat.le_of_ble_eq_true rfl) hn) (Nat.le_trans (Nat.le_of_ble_eq_true rfl) hl) (Nat.le_of_ble_eq_true rfl) rfl rfl ?_
      refine ew_if_eq 56 d_XProver_decide_49 (by decide) (fun c12 => ?_) (fun c12 => ?_)
      · rw [if_pos c12] at h
        refine ew_iconst (1) d_XProver_decide_56 (by decide) ?_
        exact E_XProver_decide_57 hn hl h
      · rw [if_neg c12] at h
        refine ew_iconst (0) d_XProver_decide_52 (by decide) ?_
        refine ew_goto 57 d_XProver_decide_53 (by decide) ?_
        exact E_XProver_decide_57 hn hl h
    · rw [if_pos c6] at h
      refine ew_aload_n 1 d_XProver_decide_25 rfl rfl ?_
      refine ew_iconst (1) d_XProver_decide_26 (by decide) ?_
      obtain ⟨M13, aM13, eM13, h⟩ := pF_inv h
      refine ew_pF 4 1 d_XProver_decide_27 fl_XProver_164 aM13 eM13 (fun ad => ⟨rfl, rfl⟩) ?_
      refine ew_goto 68 d_XProver_decide_30 (by decide) ?_
      exact ew_pick (L' := []) [] rfl (E_XProver_decide_68 hn hl h)
  · rw [if_neg c3] at h
    refine ew_aload_n 1 d_XProver_decide_7 rfl rfl ?_
    refine ew_iconst (2) d_XProver_decide_8 (by decide) ?_
    obtain ⟨M14, aM14, eM14, h⟩ := pF_inv h
    refine ew_pF 4 1 d_XProver_decide_9 fl_XProver_164 aM14 eM14 (fun ad => ⟨rfl, rfl⟩) ?_
    refine ew_goto 68 d_XProver_decide_12 (by decide) ?_
    exact ew_pick (L' := []) [] rfl (E_XProver_decide_68 hn hl h)
theorem T_XProver_decide {n : Nat} {l0 : Nat} {l1 : Nat} {M Mf : PM} {res : qRs} (h : F_XProver_decide n l0 l1 M = some (res, Mf)) : CT Y_XProver_decide 13 343 [.ref l0, .ref l1] M res Mf :=
  CT_of (by decide) (Nat.le_of_ble_eq_true rfl) (qHd_ne (by decide)) (fun g X ad0 => E_XProver_decide (g := g) (X := X) (Z := (ad0, M, res, Mf, 13, 343)) (Nat.le_refl _) (Nat.le_refl _) h)
theorem d_X_init_0 : decode Y_X_init.2.1 0 = .ok (.aload_n 0, 1) := by decide +kernel
theorem d_X_init_1 : decode Y_X_init.2.1 1 = .ok (.invokespecial 3, 3) := by decide +kernel
theorem d_X_init_4 : decode Y_X_init.2.1 4 = .ok (.aload_n 0, 1) := by decide +kernel
theorem d_X_init_5 : decode Y_X_init.2.1 5 = .ok (.new 9, 3) := by decide +kernel
theorem d_X_init_8 : decode Y_X_init.2.1 8 = .ok (.dup, 1) := by decide +kernel
theorem d_X_init_9 : decode Y_X_init.2.1 9 = .ok (.invokespecial 11, 3) := by decide +kernel
theorem d_X_init_12 : decode Y_X_init.2.1 12 = .ok (.putfield 12, 3) := by decide +kernel
theorem d_X_init_15 : decode Y_X_init.2.1 15 = .ok (.aload_n 0, 1) := by decide +kernel
theorem d_X_init_16 : decode Y_X_init.2.1 16 = .ok (.new 16, 3) := by decide +kernel
theorem d_X_init_19 : decode Y_X_init.2.1 19 = .ok (.dup, 1) := by decide +kernel
theorem d_X_init_20 : decode Y_X_init.2.1 20 = .ok (.invokespecial 18, 3) := by decide +kernel
theorem d_X_init_23 : decode Y_X_init.2.1 23 = .ok (.putfield 19, 3) := by decide +kernel
theorem d_X_init_26 : decode Y_X_init.2.1 26 = .ok (.aload_n 0, 1) := by decide +kernel
theorem d_X_init_27 : decode Y_X_init.2.1 27 = .ok (.new 23, 3) := by decide +kernel
theorem d_X_init_30 : decode Y_X_init.2.1 30 = .ok (.dup, 1) := by decide +kernel
theorem d_X_init_31 : decode Y_X_init.2.1 31 = .ok (.invokespecial 25, 3) := by decide +kernel
theorem d_X_init_34 : decode Y_X_init.2.1 34 = .ok (.putfield 26, 3) := by decide +kernel
theorem d_X_init_37 : decode Y_X_init.2.1 37 = .ok (.return_, 1) := by decide +kernel
def F_X_init (n : Nat) (l0 : Nat) (M : PM) : qO :=
  mO 2 M (fun q1 M2 =>
  cV (F_XCore_init n q1 M2) (fun M3 =>
  pF 1 M3 l0 0 (.ref q1) (fun M4 =>
  mO 4 M4 (fun q5 M6 =>
  cV (F_XOutcome_init n q5 M6) (fun M7 =>
  pF 1 M7 l0 1 (.ref q5) (fun M8 =>
  mO 6 M8 (fun q9 M10 =>
  cV (F_XProver_init n q9 M10) (fun M11 =>
  pF 1 M11 l0 2 (.ref q9) (fun M12 =>
  some (.inl none, M12))))))))))
set_option maxHeartbeats 4000000 in
set_option maxRecDepth 100000 in
theorem E_X_init {g : qG} {X : qX} {Z : qZ} (hn : 4 ≤ zn Z) (hl : 103 ≤ zl Z) {n : Nat} {l0 : Nat} {M : PM} (h : F_X_init n l0 M = some (zr Z, zf Z)) : EW Y_X_init g X Z 0 [(0, .ref l0)] [] M := by
  unfold F_X_init at h
  refine ew_aload_n 0 d_X_init_0 rfl rfl ?_
  refine ew_objInit d_X_init_1 ob_X_3 (Nat.le_trans (Nat.le_of_ble_eq_true rfl) hn) (Nat.le_trans (Nat.le_of_ble_eq_true rfl) hl) ?_
  refine ew_aload_n 0 d_X_init_4 rfl rfl ?_
  obtain ⟨q1, M2, eq1, fq1, h⟩ := mO_inv h
  refine ew_mO 2 d_X_init_5 nw_X_9 eq1 fq1 ?_
  refine ew_dup d_X_init_8 rfl ?_
  obtain ⟨M3, hM3, h⟩ := cV_inv h
  refine ew_callI [] d_X_init_9 ci_X_11 (T_XCore_init hM3) (Nat.le_trans (Nat.le_of_ble_eq_true rfl) hn) (Nat.le_trans (Nat.le_of_ble_eq_true rfl) hl) (Nat.le_of_ble_eq_true rfl) rfl ?_
  obtain ⟨M4, aM4, eM4, h⟩ := pF_inv h
  refine ew_pFF 1 0 d_X_init_12 fl_X_12 rfl rfl aM4 eM4 (fun ad => ⟨rfl, rfl⟩) ?_
  refine ew_aload_n 0 d_X_init_15 rfl rfl ?_
  obtain ⟨q5, M6, eq5, fq5, h⟩ := mO_inv h
  refine ew_mO 4 d_X_init_16 nw_X_16 eq5 fq5 ?_
  refine ew_dup d_X_init_19 rfl ?_
  obtain ⟨M7, hM7, h⟩ := cV_inv h
  refine ew_callI [] d_X_init_20 ci_X_18 (T_XOutcome_init hM7) (Nat.le_trans (Nat.le_of_ble_eq_true rfl) hn) (Nat.le_trans (Nat.le_of_ble_eq_true rfl) hl) (Nat.le_of_ble_eq_true rfl) rfl ?_
  obtain ⟨M8, aM8, eM8, h⟩ := pF_inv h
  refine ew_pFF 1 1 d_X_init_23 fl_X_19 rfl rfl aM8 eM8 (fun ad => ⟨rfl, rfl⟩) ?_
  refine ew_aload_n 0 d_X_init_26 rfl rfl ?_
  obtain ⟨q9, M10, eq9, fq9, h⟩ := mO_inv h
  refine ew_mO 6 d_X_init_27 nw_X_23 eq9 fq9 ?_
  refine ew_dup d_X_init_30 rfl ?_
  obtain ⟨M11, hM11, h⟩ := cV_inv h
  refine ew_callI [] d_X_init_31 ci_X_25 (T_XProver_init hM11) (Nat.le_trans (Nat.le_of_ble_eq_true rfl) hn) (Nat.le_trans (Nat.le_of_ble_eq_true rfl) hl) (Nat.le_of_ble_eq_true rfl) rfl ?_
  obtain ⟨M12, aM12, eM12, h⟩ := pF_inv h
  refine ew_pFF 1 2 d_X_init_34 fl_X_26 rfl rfl aM12 eM12 (fun ad => ⟨rfl, rfl⟩) ?_
  obtain ⟨hz, hm⟩ := Prod.mk.inj (Option.some.inj h)
  exact ew_return d_X_init_37 rfl hz.symm hm.symm
theorem T_X_init {n : Nat} {l0 : Nat} {M Mf : PM} {res : qRs} (h : F_X_init n l0 M = some (res, Mf)) : CT Y_X_init 4 103 [.ref l0] M res Mf :=
  CT_of (by decide) (Nat.le_of_ble_eq_true rfl) (qHd_ne (by decide)) (fun g X ad0 => E_X_init (g := g) (X := X) (Z := (ad0, M, res, Mf, 4, 103)) (Nat.le_refl _) (Nat.le_refl _) h)
theorem d_X_count_0 : decode Y_X_count.2.1 0 = .ok (.iload_n 1, 1) := by decide +kernel
theorem d_X_count_1 : decode Y_X_count.2.1 1 = .ok (.tableswitch (90) 0 5 #[39, 50, 58, 66, 74, 82], 39) := by decide +kernel
theorem d_X_count_40 : decode Y_X_count.2.1 40 = .ok (.aload_n 0, 1) := by decide +kernel
theorem d_X_count_41 : decode Y_X_count.2.1 41 = .ok (.getfield 12, 3) := by decide +kernel
theorem d_X_count_44 : decode Y_X_count.2.1 44 = .ok (.getfield 51, 3) := by decide +kernel
theorem d_X_count_47 : decode Y_X_count.2.1 47 = .ok (.getfield 165, 3) := by decide +kernel
theorem d_X_count_50 : decode Y_X_count.2.1 50 = .ok (.ireturn, 1) := by decide +kernel
theorem d_X_count_51 : decode Y_X_count.2.1 51 = .ok (.aload_n 0, 1) := by decide +kernel
theorem d_X_count_52 : decode Y_X_count.2.1 52 = .ok (.getfield 12, 3) := by decide +kernel
theorem d_X_count_55 : decode Y_X_count.2.1 55 = .ok (.getfield 168, 3) := by decide +kernel
theorem d_X_count_58 : decode Y_X_count.2.1 58 = .ok (.ireturn, 1) := by decide +kernel
theorem d_X_count_59 : decode Y_X_count.2.1 59 = .ok (.aload_n 0, 1) := by decide +kernel
theorem d_X_count_60 : decode Y_X_count.2.1 60 = .ok (.getfield 12, 3) := by decide +kernel
theorem d_X_count_63 : decode Y_X_count.2.1 63 = .ok (.getfield 169, 3) := by decide +kernel
theorem d_X_count_66 : decode Y_X_count.2.1 66 = .ok (.ireturn, 1) := by decide +kernel
theorem d_X_count_67 : decode Y_X_count.2.1 67 = .ok (.aload_n 0, 1) := by decide +kernel
theorem d_X_count_68 : decode Y_X_count.2.1 68 = .ok (.getfield 12, 3) := by decide +kernel
theorem d_X_count_71 : decode Y_X_count.2.1 71 = .ok (.getfield 101, 3) := by decide +kernel
theorem d_X_count_74 : decode Y_X_count.2.1 74 = .ok (.ireturn, 1) := by decide +kernel
theorem d_X_count_75 : decode Y_X_count.2.1 75 = .ok (.aload_n 0, 1) := by decide +kernel
theorem d_X_count_76 : decode Y_X_count.2.1 76 = .ok (.getfield 19, 3) := by decide +kernel
theorem d_X_count_79 : decode Y_X_count.2.1 79 = .ok (.getfield 172, 3) := by decide +kernel
theorem d_X_count_82 : decode Y_X_count.2.1 82 = .ok (.ireturn, 1) := by decide +kernel
theorem d_X_count_83 : decode Y_X_count.2.1 83 = .ok (.aload_n 0, 1) := by decide +kernel
theorem d_X_count_84 : decode Y_X_count.2.1 84 = .ok (.getfield 19, 3) := by decide +kernel
theorem d_X_count_87 : decode Y_X_count.2.1 87 = .ok (.getfield 175, 3) := by decide +kernel
theorem d_X_count_90 : decode Y_X_count.2.1 90 = .ok (.ireturn, 1) := by decide +kernel
theorem d_X_count_91 : decode Y_X_count.2.1 91 = .ok (.iconst (-1), 1) := by decide +kernel
theorem d_X_count_92 : decode Y_X_count.2.1 92 = .ok (.ireturn, 1) := by decide +kernel
def F_X_count (n : Nat) (l0 : Nat) (l1 : Int32) (M : PM) : qO :=
  if l1 = (0 : Int32) then
    gR 1 M l0 0 (fun v2 =>
    gR 2 M v2 0 (fun v3 =>
    gI 3 M v3 7 (fun v4 =>
    some (.inl (some (.int v4)), M))))
  else
  if l1 = (1 : Int32) then
    gR 1 M l0 0 (fun v6 =>
    gI 2 M v6 6 (fun v7 =>
    some (.inl (some (.int v7)), M)))
  else
  if l1 = (2 : Int32) then
    gR 1 M l0 0 (fun v9 =>
    gI 2 M v9 7 (fun v10 =>
    some (.inl (some (.int v10)), M)))
  else
  if l1 = (3 : Int32) then
    gR 1 M l0 0 (fun v12 =>
    gI 2 M v12 8 (fun v13 =>
    some (.inl (some (.int v13)), M)))
  else
  if l1 = (4 : Int32) then
    gR 1 M l0 1 (fun v15 =>
    gI 4 M v15 5 (fun v16 =>
    some (.inl (some (.int v16)), M)))
  else
  if l1 = (5 : Int32) then
    gR 1 M l0 1 (fun v18 =>
    gI 4 M v18 6 (fun v19 =>
    some (.inl (some (.int v19)), M)))
  else
    some (.inl (some (.int (-1 : Int32))), M)
set_option maxHeartbeats 4000000 in
set_option maxRecDepth 100000 in
theorem E_X_count {g : qG} {X : qX} {Z : qZ} (hn : 0 ≤ zn Z) (hl : 0 ≤ zl Z) {n : Nat} {l0 : Nat} {l1 : Int32} {M : PM} (h : F_X_count n l0 l1 M = some (zr Z, zf Z)) : EW Y_X_count g X Z 0 [(0, .ref l0), (1, .int l1)] [] M := by
  unfold F_X_count at h
  refine ew_iload_n 1 d_X_count_0 rfl rfl ?_
  refine (Classical.em (l1 = (0 : Int32))).elim (fun c1 => ?_) (fun c1 => ?_)
  · rw [if_pos c1] at h
    refine ew_swIn 40 d_X_count_1 (by rw [c1]; decide) (by rw [c1]; decide) (by rw [c1]; rfl) (by decide) ?_
    refine ew_aload_n 0 d_X_count_40 rfl rfl ?_
    obtain ⟨v2, av2, bv2, h⟩ := gR_inv h
    refine ew_gR 1 0 d_X_count_41 fl_X_12 av2 bv2 ?_
    obtain ⟨v3, av3, bv3, h⟩ := gR_inv h
    refine ew_gR 2 0 d_X_count_44 fl_X_51 av3 bv3 ?_
    obtain ⟨v4, av4, bv4, h⟩ := gI_inv h
    refine ew_gI 3 7 d_X_count_47 fl_X_165 av4 bv4 ?_
    obtain ⟨hz, hm⟩ := Prod.mk.inj (Option.some.inj h)
    exact ew_ireturn d_X_count_50 rfl hz.symm hm.symm
  rw [if_neg c1] at h
  refine (Classical.em (l1 = (1 : Int32))).elim (fun c5 => ?_) (fun c5 => ?_)
  · rw [if_pos c5] at h
    refine ew_swIn 51 d_X_count_1 (by rw [c5]; decide) (by rw [c5]; decide) (by rw [c5]; rfl) (by decide) ?_
    refine ew_aload_n 0 d_X_count_51 rfl rfl ?_
    obtain ⟨v6, av6, bv6, h⟩ := gR_inv h
    refine ew_gR 1 0 d_X_count_52 fl_X_12 av6 bv6 ?_
    obtain ⟨v7, av7, bv7, h⟩ := gI_inv h
    refine ew_gI 2 6 d_X_count_55 fl_X_168 av7 bv7 ?_
    obtain ⟨hz, hm⟩ := Prod.mk.inj (Option.some.inj h)
    exact ew_ireturn d_X_count_58 rfl hz.symm hm.symm
  rw [if_neg c5] at h
  refine (Classical.em (l1 = (2 : Int32))).elim (fun c8 => ?_) (fun c8 => ?_)
  · rw [if_pos c8] at h
    refine ew_swIn 59 d_X_count_1 (by rw [c8]; decide) (by rw [c8]; decide) (by rw [c8]; rfl) (by decide) ?_
    refine ew_aload_n 0 d_X_count_59 rfl rfl ?_
    obtain ⟨v9, av9, bv9, h⟩ := gR_inv h
    refine ew_gR 1 0 d_X_count_60 fl_X_12 av9 bv9 ?_
    obtain ⟨v10, av10, bv10, h⟩ := gI_inv h
    refine ew_gI 2 7 d_X_count_63 fl_X_169 av10 bv10 ?_
    obtain ⟨hz, hm⟩ := Prod.mk.inj (Option.some.inj h)
    exact ew_ireturn d_X_count_66 rfl hz.symm hm.symm
  rw [if_neg c8] at h
  refine (Classical.em (l1 = (3 : Int32))).elim (fun c11 => ?_) (fun c11 => ?_)
  · rw [if_pos c11] at h
    refine ew_swIn 67 d_X_count_1 (by rw [c11]; decide) (by rw [c11]; decide) (by rw [c11]; rfl) (by decide) ?_
    refine ew_aload_n 0 d_X_count_67 rfl rfl ?_
    obtain ⟨v12, av12, bv12, h⟩ := gR_inv h
    refine ew_gR 1 0 d_X_count_68 fl_X_12 av12 bv12 ?_
    obtain ⟨v13, av13, bv13, h⟩ := gI_inv h
    refine ew_gI 2 8 d_X_count_71 fl_X_101 av13 bv13 ?_
    obtain ⟨hz, hm⟩ := Prod.mk.inj (Option.some.inj h)
    exact ew_ireturn d_X_count_74 rfl hz.symm hm.symm
  rw [if_neg c11] at h
  refine (Classical.em (l1 = (4 : Int32))).elim (fun c14 => ?_) (fun c14 => ?_)
  · rw [if_pos c14] at h
    refine ew_swIn 75 d_X_count_1 (by rw [c14]; decide) (by rw [c14]; decide) (by rw [c14]; rfl) (by decide) ?_
    refine ew_aload_n 0 d_X_count_75 rfl rfl ?_
    obtain ⟨v15, av15, bv15, h⟩ := gR_inv h
    refine ew_gR 1 1 d_X_count_76 fl_X_19 av15 bv15 ?_
    obtain ⟨v16, av16, bv16, h⟩ := gI_inv h
    refine ew_gI 4 5 d_X_count_79 fl_X_172 av16 bv16 ?_
    obtain ⟨hz, hm⟩ := Prod.mk.inj (Option.some.inj h)
    exact ew_ireturn d_X_count_82 rfl hz.symm hm.symm
  rw [if_neg c14] at h
  refine (Classical.em (l1 = (5 : Int32))).elim (fun c17 => ?_) (fun c17 => ?_)
  · rw [if_pos c17] at h
    refine ew_swIn 83 d_X_count_1 (by rw [c17]; decide) (by rw [c17]; decide) (by rw [c17]; rfl) (by decide) ?_
    refine ew_aload_n 0 d_X_count_83 rfl rfl ?_
    obtain ⟨v18, av18, bv18, h⟩ := gR_inv h
    refine ew_gR 1 1 d_X_count_84 fl_X_19 av18 bv18 ?_
    obtain ⟨v19, av19, bv19, h⟩ := gI_inv h
    refine ew_gI 4 6 d_X_count_87 fl_X_175 av19 bv19 ?_
    obtain ⟨hz, hm⟩ := Prod.mk.inj (Option.some.inj h)
    exact ew_ireturn d_X_count_90 rfl hz.symm hm.symm
  rw [if_neg c17] at h
  have zc1 := lv_neT c1 (show (0 : Int32).toInt = 0 by decide)
  have zc5 := lv_neT c5 (show (1 : Int32).toInt = 1 by decide)
  have zc8 := lv_neT c8 (show (2 : Int32).toInt = 2 by decide)
  have zc11 := lv_neT c11 (show (3 : Int32).toInt = 3 by decide)
  have zc14 := lv_neT c14 (show (4 : Int32).toInt = 4 by decide)
  have zc17 := lv_neT c17 (show (5 : Int32).toInt = 5 by decide)
  refine ew_swOut 91 d_X_count_1 (by omega) (by decide) ?_
  refine ew_iconst (-1) d_X_count_91 (by decide) ?_
  obtain ⟨hz, hm⟩ := Prod.mk.inj (Option.some.inj h)
  exact ew_ireturn d_X_count_92 rfl hz.symm hm.symm
theorem T_X_count {n : Nat} {l0 : Nat} {l1 : Int32} {M Mf : PM} {res : qRs} (h : F_X_count n l0 l1 M = some (res, Mf)) : CT Y_X_count 0 0 [.ref l0, .int l1] M res Mf :=
  CT_of (by decide) (Nat.le_of_ble_eq_true rfl) (qHd_ne (by decide)) (fun g X ad0 => E_X_count (g := g) (X := X) (Z := (ad0, M, res, Mf, 0, 0)) (Nat.le_refl _) (Nat.le_refl _) h)
