theorem d_XModel_node_0 : decode Y_XModel_node.2.1 0 = .ok (.aload_n 0, 1) := by decide +kernel
theorem d_XModel_node_1 : decode Y_XModel_node.2.1 1 = .ok (.iconst 0, 1) := by decide +kernel
theorem d_XModel_node_2 : decode Y_XModel_node.2.1 2 = .ok (.putfield 87, 3) := by decide +kernel
theorem d_XModel_node_5 : decode Y_XModel_node.2.1 5 = .ok (.aload_n 0, 1) := by decide +kernel
theorem d_XModel_node_6 : decode Y_XModel_node.2.1 6 = .ok (.iload_n 1, 1) := by decide +kernel
theorem d_XModel_node_7 : decode Y_XModel_node.2.1 7 = .ok (.invokevirtual 125, 3) := by decide +kernel
theorem d_XModel_node_10 : decode Y_XModel_node.2.1 10 = .ok (.ifCond .eq (12), 3) := by decide +kernel
theorem d_XModel_node_13 : decode Y_XModel_node.2.1 13 = .ok (.iload_n 2, 1) := by decide +kernel
theorem d_XModel_node_14 : decode Y_XModel_node.2.1 14 = .ok (.iconst 0, 1) := by decide +kernel
theorem d_XModel_node_15 : decode Y_XModel_node.2.1 15 = .ok (.iconst 3, 1) := by decide +kernel
theorem d_XModel_node_16 : decode Y_XModel_node.2.1 16 = .ok (.invokestatic 115, 3) := by decide +kernel
theorem d_XModel_node_19 : decode Y_XModel_node.2.1 19 = .ok (.ifCond .ne (9), 3) := by decide +kernel
theorem d_XModel_node_22 : decode Y_XModel_node.2.1 22 = .ok (.aload_n 0, 1) := by decide +kernel
theorem d_XModel_node_23 : decode Y_XModel_node.2.1 23 = .ok (.iconst 1, 1) := by decide +kernel
theorem d_XModel_node_24 : decode Y_XModel_node.2.1 24 = .ok (.invokevirtual 111, 3) := by decide +kernel
theorem d_XModel_node_27 : decode Y_XModel_node.2.1 27 = .ok (.ireturn, 1) := by decide +kernel
theorem d_XModel_node_28 : decode Y_XModel_node.2.1 28 = .ok (.iload_n 2, 1) := by decide +kernel
theorem d_XModel_node_29 : decode Y_XModel_node.2.1 29 = .ok (.ifCond .ne (12), 3) := by decide +kernel
theorem d_XModel_node_32 : decode Y_XModel_node.2.1 32 = .ok (.aload_n 0, 1) := by decide +kernel
theorem d_XModel_node_33 : decode Y_XModel_node.2.1 33 = .ok (.getfield 13, 3) := by decide +kernel
theorem d_XModel_node_36 : decode Y_XModel_node.2.1 36 = .ok (.iload_n 1, 1) := by decide +kernel
theorem d_XModel_node_37 : decode Y_XModel_node.2.1 37 = .ok (.iaload, 1) := by decide +kernel
theorem d_XModel_node_38 : decode Y_XModel_node.2.1 38 = .ok (.goto (37), 3) := by decide +kernel
theorem d_XModel_node_41 : decode Y_XModel_node.2.1 41 = .ok (.iload_n 2, 1) := by decide +kernel
theorem d_XModel_node_42 : decode Y_XModel_node.2.1 42 = .ok (.iconst 1, 1) := by decide +kernel
theorem d_XModel_node_43 : decode Y_XModel_node.2.1 43 = .ok (.if_icmp .ne (12), 3) := by decide +kernel
theorem d_XModel_node_46 : decode Y_XModel_node.2.1 46 = .ok (.aload_n 0, 1) := by decide +kernel
theorem d_XModel_node_47 : decode Y_XModel_node.2.1 47 = .ok (.getfield 17, 3) := by decide +kernel
theorem d_XModel_node_50 : decode Y_XModel_node.2.1 50 = .ok (.iload_n 1, 1) := by decide +kernel
theorem d_XModel_node_51 : decode Y_XModel_node.2.1 51 = .ok (.iaload, 1) := by decide +kernel
theorem d_XModel_node_52 : decode Y_XModel_node.2.1 52 = .ok (.goto (23), 3) := by decide +kernel
theorem d_XModel_node_55 : decode Y_XModel_node.2.1 55 = .ok (.iload_n 2, 1) := by decide +kernel
theorem d_XModel_node_56 : decode Y_XModel_node.2.1 56 = .ok (.iconst 2, 1) := by decide +kernel
theorem d_XModel_node_57 : decode Y_XModel_node.2.1 57 = .ok (.if_icmp .ne (12), 3) := by decide +kernel
theorem d_XModel_node_60 : decode Y_XModel_node.2.1 60 = .ok (.aload_n 0, 1) := by decide +kernel
theorem d_XModel_node_61 : decode Y_XModel_node.2.1 61 = .ok (.getfield 20, 3) := by decide +kernel
theorem d_XModel_node_64 : decode Y_XModel_node.2.1 64 = .ok (.iload_n 1, 1) := by decide +kernel
theorem d_XModel_node_65 : decode Y_XModel_node.2.1 65 = .ok (.iaload, 1) := by decide +kernel
theorem d_XModel_node_66 : decode Y_XModel_node.2.1 66 = .ok (.goto (9), 3) := by decide +kernel
theorem d_XModel_node_69 : decode Y_XModel_node.2.1 69 = .ok (.aload_n 0, 1) := by decide +kernel
theorem d_XModel_node_70 : decode Y_XModel_node.2.1 70 = .ok (.getfield 23, 3) := by decide +kernel
theorem d_XModel_node_73 : decode Y_XModel_node.2.1 73 = .ok (.iload_n 1, 1) := by decide +kernel
theorem d_XModel_node_74 : decode Y_XModel_node.2.1 74 = .ok (.iaload, 1) := by decide +kernel
theorem d_XModel_node_75 : decode Y_XModel_node.2.1 75 = .ok (.ireturn, 1) := by decide +kernel
def F_XModel_node_22 (n : Nat) (l0 : Nat) (M : PM) : qO :=
  kO 0 M l0 (
  cI (F_XModel_fail n l0 (1 : Int32) M) (fun v2 M1 =>
  some (.inl (some (.int v2)), M1)))
set_option maxHeartbeats 4000000 in
set_option maxRecDepth 100000 in
theorem E_XModel_node_22 {g : qG} {X : qX} {Z : qZ} (hn : 2 ≤ zn Z) (hl : 43 ≤ zl Z) {n : Nat} {l0 : Nat} {M : PM} (h : F_XModel_node_22 n l0 M = some (zr Z, zf Z)) : EW Y_XModel_node g X Z 22 [(0, .ref l0)] [] M := by
  unfold F_XModel_node_22 at h
  refine ew_aload_n 0 d_XModel_node_22 rfl rfl ?_
  refine ew_iconst (1) d_XModel_node_23 (by decide) ?_
  obtain ⟨kM1, h⟩ := kO_inv h
  obtain ⟨v2, M1, hM1, h⟩ := cI_inv h
  refine ew_callV 0 [.int (1 : Int32)] d_XModel_node_24 cv_XModel_111 (T_XModel_fail hM1) kM1 (Nat.le_trans (Nat.le_of_ble_eq_true rfl) hn) (Nat.le_trans (Nat.le_of_ble_eq_true rfl) hl) (Nat.le_of_ble_eq_true rfl) rfl rfl ?_
  obtain ⟨hz, hm⟩ := Prod.mk.inj (Option.some.inj h)
  exact ew_ireturn d_XModel_node_27 rfl hz.symm hm.symm
def F_XModel_node_75 (n : Nat) (s0 : Int32) (M : PM) : qO :=
  some (.inl (some (.int s0)), M)
set_option maxHeartbeats 4000000 in
set_option maxRecDepth 100000 in
theorem E_XModel_node_75 {g : qG} {X : qX} {Z : qZ} (hn : 2 ≤ zn Z) (hl : 43 ≤ zl Z) {n : Nat} {s0 : Int32} {M : PM} (h : F_XModel_node_75 n s0 M = some (zr Z, zf Z)) : EW Y_XModel_node g X Z 75 [] [.int s0] M := by
  unfold F_XModel_node_75 at h
  obtain ⟨hz, hm⟩ := Prod.mk.inj (Option.some.inj h)
  exact ew_ireturn d_XModel_node_75 rfl hz.symm hm.symm
def F_XModel_node (n : Nat) (l0 : Nat) (l1 : Int32) (l2 : Int32) (M : PM) : qO :=
  pF 0 M l0 0 (.int (0 : Int32)) (fun M1 =>
  kO 0 M1 l0 (
  cI (F_XModel_isNode n l0 l1 M1) (fun v3 M2 =>
  if v3 = (0 : Int32) then
    F_XModel_node_22 n l0 M2
  else
    cI (F_XModel_within n l2 (0 : Int32) (3 : Int32) M2) (fun v6 M5 =>
    if v6 = (0 : Int32) then
      F_XModel_node_22 n l0 M5
    else
      if l2 = (0 : Int32) then
        gR 0 M5 l0 3 (fun v17 =>
        lI M5 v17 l1 (fun v18 =>
        F_XModel_node_75 n v18 M5))
      else
        if l2 = (1 : Int32) then
          gR 0 M5 l0 4 (fun v15 =>
          lI M5 v15 l1 (fun v16 =>
          F_XModel_node_75 n v16 M5))
        else
          if l2 = (2 : Int32) then
            gR 0 M5 l0 5 (fun v13 =>
            lI M5 v13 l1 (fun v14 =>
            F_XModel_node_75 n v14 M5))
          else
            gR 0 M5 l0 6 (fun v11 =>
            lI M5 v11 l1 (fun v12 =>
            F_XModel_node_75 n v12 M5))))))
set_option maxHeartbeats 4000000 in
set_option maxRecDepth 100000 in
theorem E_XModel_node {g : qG} {X : qX} {Z : qZ} (hn : 2 ≤ zn Z) (hl : 43 ≤ zl Z) {n : Nat} {l0 : Nat} {l1 : Int32} {l2 : Int32} {M : PM} (h : F_XModel_node n l0 l1 l2 M = some (zr Z, zf Z)) : EW Y_XModel_node g X Z 0 [(0, .ref l0), (1, .int l1), (2, .int l2)] [] M := by
  unfold F_XModel_node at h
  refine ew_aload_n 0 d_XModel_node_0 rfl rfl ?_
  refine ew_iconst (0) d_XModel_node_1 (by decide) ?_
  obtain ⟨M1, aM1, eM1, h⟩ := pF_inv h
  refine ew_pF 0 0 d_XModel_node_2 fl_XModel_87 aM1 eM1 (fun ad => ⟨rfl, rfl⟩) ?_
  refine ew_aload_n 0 d_XModel_node_5 rfl rfl ?_
  refine ew_iload_n 1 d_XModel_node_6 rfl rfl ?_
  obtain ⟨kM2, h⟩ := kO_inv h
  obtain ⟨v3, M2, hM2, h⟩ := cI_inv h
  refine ew_callV 0 [.int l1] d_XModel_node_7 cv_XModel_125 (T_XModel_isNode hM2) kM2 (Nat.le_trans (Nat.le_of_ble_eq_true rfl) hn) (Nat.le_trans (Nat.le_of_ble_eq_true rfl) hl) (Nat.le_of_ble_eq_true rfl) rfl rfl ?_
  refine ew_if_eq 22 d_XModel_node_10 (by decide) (fun c4 => ?_) (fun c4 => ?_)
  · rw [if_pos c4] at h
    exact ew_pick (L' := [(0, .ref l0)]) [0] rfl (E_XModel_node_22 hn hl h)
  · rw [if_neg c4] at h
    refine ew_iload_n 2 d_XModel_node_13 rfl rfl ?_
    refine ew_iconst (0) d_XModel_node_14 (by decide) ?_
    refine ew_iconst (3) d_XModel_node_15 (by decide) ?_
    obtain ⟨v6, M5, hM5, h⟩ := cI_inv h
    refine ew_callS [.int l2, .int (0 : Int32), .int (3 : Int32)] d_XModel_node_16 cs_XModel_115 (T_XModel_within hM5) (Nat.le_trans (Nat.le_of_ble_eq_true rfl) hn) (Nat.le_trans (Nat.le_of_ble_eq_true rfl) hl) (Nat.le_of_ble_eq_true rfl) rfl rfl ?_
    refine ew_if_ne 28 d_XModel_node_19 (by decide) (fun c7 => ?_) (fun c7 => ?_)
    · rw [if_neg c7] at h
      refine ew_iload_n 2 d_XModel_node_28 rfl rfl ?_
      refine ew_if_ne 41 d_XModel_node_29 (by decide) (fun c8 => ?_) (fun c8 => ?_)
      · rw [if_neg c8] at h
        refine ew_iload_n 2 d_XModel_node_41 rfl rfl ?_
        refine ew_iconst (1) d_XModel_node_42 (by decide) ?_
        refine ew_icmp_ne 55 d_XModel_node_43 (by decide) (fun c9 => ?_) (fun c9 => ?_)
        · rw [if_neg c9] at h
          refine ew_iload_n 2 d_XModel_node_55 rfl rfl ?_
          refine ew_iconst (2) d_XModel_node_56 (by decide) ?_
          refine ew_icmp_ne 69 d_XModel_node_57 (by decide) (fun c10 => ?_) (fun c10 => ?_)
          · rw [if_neg c10] at h
            refine ew_aload_n 0 d_XModel_node_69 rfl rfl ?_
            obtain ⟨v11, av11, bv11, h⟩ := gR_inv h
            refine ew_gR 0 6 d_XModel_node_70 fl_XModel_23 av11 bv11 ?_
            refine ew_iload_n 1 d_XModel_node_73 rfl rfl ?_
            obtain ⟨v12, av12, bv12, cv12, ev12, h⟩ := lI_inv h
            refine ew_lI d_XModel_node_74 av12 bv12 cv12 ev12 ?_
            exact ew_pick (L' := []) [] rfl (E_XModel_node_75 hn hl h)
          · rw [if_pos c10] at h
            refine ew_aload_n 0 d_XModel_node_60 rfl rfl ?_
            obtain ⟨v13, av13, bv13, h⟩ := gR_inv h
            refine ew_gR 0 5 d_XModel_node_61 fl_XModel_20 av13 bv13 ?_
            refine ew_iload_n 1 d_XModel_node_64 rfl rfl ?_
            obtain ⟨v14, av14, bv14, cv14, ev14, h⟩ := lI_inv h
            refine ew_lI d_XModel_node_65 av14 bv14 cv14 ev14 ?_
            refine ew_goto 75 d_XModel_node_66 (by decide) ?_
            exact ew_pick (L' := []) [] rfl (E_XModel_node_75 hn hl h)
        · rw [if_pos c9] at h
          refine ew_aload_n 0 d_XModel_node_46 rfl rfl ?_
          obtain ⟨v15, av15, bv15, h⟩ := gR_inv h
          refine ew_gR 0 4 d_XModel_node_47 fl_XModel_17 av15 bv15 ?_
          refine ew_iload_n 1 d_XModel_node_50 rfl rfl ?_
          obtain ⟨v16, av16, bv16, cv16, ev16, h⟩ := lI_inv h
          refine ew_lI d_XModel_node_51 av16 bv16 cv16 ev16 ?_
          refine ew_goto 75 d_XModel_node_52 (by decide) ?_
          exact ew_pick (L' := []) [] rfl (E_XModel_node_75 hn hl h)
      · rw [if_pos c8] at h
        refine ew_aload_n 0 d_XModel_node_32 rfl rfl ?_
        obtain ⟨v17, av17, bv17, h⟩ := gR_inv h
        refine ew_gR 0 3 d_XModel_node_33 fl_XModel_13 av17 bv17 ?_
        refine ew_iload_n 1 d_XModel_node_36 rfl rfl ?_
        obtain ⟨v18, av18, bv18, cv18, ev18, h⟩ := lI_inv h
        refine ew_lI d_XModel_node_37 av18 bv18 cv18 ev18 ?_
        refine ew_goto 75 d_XModel_node_38 (by decide) ?_
        exact ew_pick (L' := []) [] rfl (E_XModel_node_75 hn hl h)
    · rw [if_pos c7] at h
      exact ew_pick (L' := [(0, .ref l0)]) [0] rfl (E_XModel_node_22 hn hl h)
theorem T_XModel_node {n : Nat} {l0 : Nat} {l1 : Int32} {l2 : Int32} {M Mf : PM} {res : qRs} (h : F_XModel_node n l0 l1 l2 M = some (res, Mf)) : CT Y_XModel_node 2 43 [.ref l0, .int l1, .int l2] M res Mf :=
  CT_of (by decide) (Nat.le_of_ble_eq_true rfl) (qHd_ne (by decide)) (fun g X ad0 => E_XModel_node (g := g) (X := X) (Z := (ad0, M, res, Mf, 2, 43)) (Nat.le_refl _) (Nat.le_refl _) h)
theorem d_XModel_count_0 : decode Y_XModel_count.2.1 0 = .ok (.aload_n 0, 1) := by decide +kernel
theorem d_XModel_count_1 : decode Y_XModel_count.2.1 1 = .ok (.iconst 0, 1) := by decide +kernel
theorem d_XModel_count_2 : decode Y_XModel_count.2.1 2 = .ok (.putfield 87, 3) := by decide +kernel
theorem d_XModel_count_5 : decode Y_XModel_count.2.1 5 = .ok (.iconst 0, 1) := by decide +kernel
theorem d_XModel_count_6 : decode Y_XModel_count.2.1 6 = .ok (.istore_n 2, 1) := by decide +kernel
theorem d_XModel_count_7 : decode Y_XModel_count.2.1 7 = .ok (.iload_n 1, 1) := by decide +kernel
theorem d_XModel_count_8 : decode Y_XModel_count.2.1 8 = .ok (.tableswitch (100) 0 5 #[40, 45, 50, 85, 90, 95], 40) := by decide +kernel
theorem d_XModel_count_48 : decode Y_XModel_count.2.1 48 = .ok (.aload_n 0, 1) := by decide +kernel
theorem d_XModel_count_49 : decode Y_XModel_count.2.1 49 = .ok (.getfield 7, 3) := by decide +kernel
theorem d_XModel_count_52 : decode Y_XModel_count.2.1 52 = .ok (.ireturn, 1) := by decide +kernel
theorem d_XModel_count_53 : decode Y_XModel_count.2.1 53 = .ok (.aload_n 0, 1) := by decide +kernel
theorem d_XModel_count_54 : decode Y_XModel_count.2.1 54 = .ok (.getfield 119, 3) := by decide +kernel
theorem d_XModel_count_57 : decode Y_XModel_count.2.1 57 = .ok (.ireturn, 1) := by decide +kernel
theorem d_XModel_count_58 : decode Y_XModel_count.2.1 58 = .ok (.iconst 0, 1) := by decide +kernel
theorem d_XModel_count_59 : decode Y_XModel_count.2.1 59 = .ok (.istore_n 3, 1) := by decide +kernel
theorem d_XModel_count_60 : decode Y_XModel_count.2.1 60 = .ok (.iload_n 3, 1) := by decide +kernel
theorem d_XModel_count_61 : decode Y_XModel_count.2.1 61 = .ok (.aload_n 0, 1) := by decide +kernel
theorem d_XModel_count_62 : decode Y_XModel_count.2.1 62 = .ok (.getfield 119, 3) := by decide +kernel
theorem d_XModel_count_65 : decode Y_XModel_count.2.1 65 = .ok (.if_icmp .ge (26), 3) := by decide +kernel
theorem d_XModel_count_68 : decode Y_XModel_count.2.1 68 = .ok (.iload_n 2, 1) := by decide +kernel
theorem d_XModel_count_69 : decode Y_XModel_count.2.1 69 = .ok (.aload_n 0, 1) := by decide +kernel
theorem d_XModel_count_70 : decode Y_XModel_count.2.1 70 = .ok (.getfield 45, 3) := by decide +kernel
theorem d_XModel_count_73 : decode Y_XModel_count.2.1 73 = .ok (.iload_n 3, 1) := by decide +kernel
theorem d_XModel_count_74 : decode Y_XModel_count.2.1 74 = .ok (.baload, 1) := by decide +kernel
theorem d_XModel_count_75 : decode Y_XModel_count.2.1 75 = .ok (.ifCond .eq (7), 3) := by decide +kernel
theorem d_XModel_count_78 : decode Y_XModel_count.2.1 78 = .ok (.iconst 1, 1) := by decide +kernel
theorem d_XModel_count_79 : decode Y_XModel_count.2.1 79 = .ok (.goto (4), 3) := by decide +kernel
theorem d_XModel_count_82 : decode Y_XModel_count.2.1 82 = .ok (.iconst 0, 1) := by decide +kernel
theorem d_XModel_count_83 : decode Y_XModel_count.2.1 83 = .ok (.iadd, 1) := by decide +kernel
theorem d_XModel_count_84 : decode Y_XModel_count.2.1 84 = .ok (.istore_n 2, 1) := by decide +kernel
theorem d_XModel_count_85 : decode Y_XModel_count.2.1 85 = .ok (.iinc 3 (1), 3) := by decide +kernel
theorem d_XModel_count_88 : decode Y_XModel_count.2.1 88 = .ok (.goto (-28), 3) := by decide +kernel
theorem d_XModel_count_91 : decode Y_XModel_count.2.1 91 = .ok (.iload_n 2, 1) := by decide +kernel
theorem d_XModel_count_92 : decode Y_XModel_count.2.1 92 = .ok (.ireturn, 1) := by decide +kernel
theorem d_XModel_count_93 : decode Y_XModel_count.2.1 93 = .ok (.aload_n 0, 1) := by decide +kernel
theorem d_XModel_count_94 : decode Y_XModel_count.2.1 94 = .ok (.getfield 155, 3) := by decide +kernel
theorem d_XModel_count_97 : decode Y_XModel_count.2.1 97 = .ok (.ireturn, 1) := by decide +kernel
theorem d_XModel_count_98 : decode Y_XModel_count.2.1 98 = .ok (.aload_n 0, 1) := by decide +kernel
theorem d_XModel_count_99 : decode Y_XModel_count.2.1 99 = .ok (.getfield 170, 3) := by decide +kernel
theorem d_XModel_count_102 : decode Y_XModel_count.2.1 102 = .ok (.ireturn, 1) := by decide +kernel
theorem d_XModel_count_103 : decode Y_XModel_count.2.1 103 = .ok (.aload_n 0, 1) := by decide +kernel
theorem d_XModel_count_104 : decode Y_XModel_count.2.1 104 = .ok (.getfield 173, 3) := by decide +kernel
theorem d_XModel_count_107 : decode Y_XModel_count.2.1 107 = .ok (.ireturn, 1) := by decide +kernel
theorem d_XModel_count_108 : decode Y_XModel_count.2.1 108 = .ok (.iconst (-1), 1) := by decide +kernel
theorem d_XModel_count_109 : decode Y_XModel_count.2.1 109 = .ok (.ireturn, 1) := by decide +kernel
def F_XModel_count_83 (n : Nat) (rec60 : Nat → Int32 → Int32 → PM → qO) (l0 : Nat) (l3 : Int32) (s0 : Int32) (s1 : Int32) (M : PM) : qO :=
  bI (s0 + s1) (fun v1 =>
  bI (l3 + (1 : Int32)) (fun v2 =>
  rec60 l0 v1 v2 M))
set_option maxHeartbeats 4000000 in
set_option maxRecDepth 100000 in
theorem E_XModel_count_83 {g : qG} {X : qX} {Z : qZ} (hn : 0 ≤ zn Z) (hl : 0 ≤ zl Z) {n : Nat} {rec60 : Nat → Int32 → Int32 → PM → qO} (hrec60 : ∀ (l0 : Nat) (l2 : Int32) (l3 : Int32) (M : PM), rec60 l0 l2 l3 M = some (zr Z, zf Z) → EW Y_XModel_count g X Z 60 [(0, .ref l0), (2, .int l2), (3, .int l3)] [] M) {l0 : Nat} {l3 : Int32} {s0 : Int32} {s1 : Int32} {M : PM} (h : F_XModel_count_83 n rec60 l0 l3 s0 s1 M = some (zr Z, zf Z)) : EW Y_XModel_count g X Z 83 [(0, .ref l0), (3, .int l3)] [.int s1, .int s0] M := by
  unfold F_XModel_count_83 at h
  refine ew_iadd d_XModel_count_83 ?_
  obtain ⟨v1, ev1, h⟩ := bI_inv h
  refine ew_topI ev1 ?_
  refine ew_istore_n (L' := [(0, .ref l0), (2, .int v1), (3, .int l3)]) 2 [1, 0, 2] d_XModel_count_84 rfl (by decide) rfl ?_
  obtain ⟨v2, ev2, h⟩ := bI_inv h
  refine ew_iinc (L' := [(0, .ref l0), (2, .int v1), (3, .int v2)]) v2 [1, 2, 0] d_XModel_count_85 rfl (by rw [ev2]; rfl) (by decide) rfl ?_
  refine ew_goto 60 d_XModel_count_88 (by decide) ?_
  exact hrec60 l0 v1 v2 M h
def F_XModel_count_60 (n : Nat) : Nat → Nat → Int32 → Int32 → PM → qO
  | 0, _, _, _, _ => none
  | f + 1, l0, l2, l3, M =>
    gI 0 M l0 9 (fun v1 =>
    if v1 ≤ l3 then
      some (.inl (some (.int l2)), M)
    else
      gR 0 M l0 15 (fun v3 =>
      lZ M v3 l3 (fun v4 =>
      if v4 = (0 : Int32) then
        F_XModel_count_83 n (F_XModel_count_60 n f) l0 l3 l2 (0 : Int32) M
      else
        F_XModel_count_83 n (F_XModel_count_60 n f) l0 l3 l2 (1 : Int32) M)))
set_option maxHeartbeats 4000000 in
set_option maxRecDepth 100000 in
theorem E_XModel_count_60 {g : qG} {X : qX} {Z : qZ} (hn : 0 ≤ zn Z) (hl : 0 ≤ zl Z) {n : Nat} : ∀ (f : Nat) (l0 : Nat) (l2 : Int32) (l3 : Int32) (M : PM), F_XModel_count_60 n f l0 l2 l3 M = some (zr Z, zf Z) → EW Y_XModel_count g X Z 60 [(0, .ref l0), (2, .int l2), (3, .int l3)] [] M := by
  intro f
  induction f with
  | zero => intro l0 l2 l3 M h; rw [F_XModel_count_60] at h; cases h
  | succ f ih =>
    intro l0 l2 l3 M h
    rw [F_XModel_count_60] at h
    refine ew_iload_n 3 d_XModel_count_60 rfl rfl ?_
    refine ew_aload_n 0 d_XModel_count_61 rfl rfl ?_
    obtain ⟨v1, av1, bv1, h⟩ := gI_inv h
    refine ew_gI 0 9 d_XModel_count_62 fl_XModel_119 av1 bv1 ?_
    refine ew_icmp_ge 91 d_XModel_count_65 (by decide) (fun c2 => ?_) (fun c2 => ?_)
    · rw [if_pos c2] at h
      refine ew_iload_n 2 d_XModel_count_91 rfl rfl ?_
      obtain ⟨hz, hm⟩ := Prod.mk.inj (Option.some.inj h)
      exact ew_ireturn d_XModel_count_92 rfl hz.symm hm.symm
    · rw [if_neg c2] at h
      refine ew_iload_n 2 d_XModel_count_68 rfl rfl ?_
      refine ew_aload_n 0 d_XModel_count_69 rfl rfl ?_
      obtain ⟨v3, av3, bv3, h⟩ := gR_inv h
      refine ew_gR 0 15 d_XModel_count_70 fl_XModel_45 av3 bv3 ?_
      refine ew_iload_n 3 d_XModel_count_73 rfl rfl ?_
      obtain ⟨v4, av4, bv4, cv4, ev4, h⟩ := lZ_inv h
      refine ew_lZ d_XModel_count_74 av4 bv4 cv4 ev4 ?_
      refine ew_if_eq 82 d_XModel_count_75 (by decide) (fun c5 => ?_) (fun c5 => ?_)
      · rw [if_pos c5] at h
        refine ew_iconst (0) d_XModel_count_82 (by decide) ?_
        exact ew_pick (L' := [(0, .ref l0), (3, .int l3)]) [0, 2] rfl (E_XModel_count_83 hn hl ih h)
      · rw [if_neg c5] at h
        refine ew_iconst (1) d_XModel_count_78 (by decide) ?_
        refine ew_goto 83 d_XModel_count_79 (by decide) ?_
        exact ew_pick (L' := [(0, .ref l0), (3, .int l3)]) [0, 2] rfl (E_XModel_count_83 hn hl ih h)
def F_XModel_count (n : Nat) (l0 : Nat) (l1 : Int32) (M : PM) : qO :=
  pF 0 M l0 0 (.int (0 : Int32)) (fun M1 =>
  if l1 = (0 : Int32) then
    gI 0 M1 l0 1 (fun v3 =>
    some (.inl (some (.int v3)), M1))
  else
  if l1 = (1 : Int32) then
    gI 0 M1 l0 9 (fun v5 =>
    some (.inl (some (.int v5)), M1))
  else
  if l1 = (2 : Int32) then
    F_XModel_count_60 n n l0 (0 : Int32) (0 : Int32) M1
  else
  if l1 = (3 : Int32) then
    gI 0 M1 l0 10 (fun v8 =>
    some (.inl (some (.int v8)), M1))
  else
  if l1 = (4 : Int32) then
    gI 0 M1 l0 29 (fun v10 =>
    some (.inl (some (.int v10)), M1))
  else
  if l1 = (5 : Int32) then
    gI 0 M1 l0 30 (fun v12 =>
    some (.inl (some (.int v12)), M1))
  else
    some (.inl (some (.int (-1 : Int32))), M1))
set_option maxHeartbeats 4000000 in
set_option maxRecDepth 100000 in
theorem E_XModel_count {g : qG} {X : qX} {Z : qZ} (hn : 0 ≤ zn Z) (hl : 0 ≤ zl Z) {n : Nat} {l0 : Nat} {l1 : Int32} {M : PM} (h : F_XModel_count n l0 l1 M = some (zr Z, zf Z)) : EW Y_XModel_count g X Z 0 [(0, .ref l0), (1, .int l1)] [] M := by
  unfold F_XModel_count at h
  refine ew_aload_n 0 d_XModel_count_0 rfl rfl ?_
  refine ew_iconst (0) d_XModel_count_1 (by decide) ?_
  obtain ⟨M1, aM1, eM1, h⟩ := pF_inv h
  refine ew_pF 0 0 d_XModel_count_2 fl_XModel_87 aM1 eM1 (fun ad => ⟨rfl, rfl⟩) ?_
  refine ew_iconst (0) d_XModel_count_5 (by decide) ?_
  refine ew_istore_n (L' := [(0, .ref l0), (1, .int l1), (2, .int (0 : Int32))]) 2 [1, 2, 0] d_XModel_count_6 rfl (by decide) rfl ?_
  refine ew_iload_n 1 d_XModel_count_7 rfl rfl ?_
  refine (Classical.em (l1 = (0 : Int32))).elim (fun c2 => ?_) (fun c2 => ?_)
  · rw [if_pos c2] at h
    refine ew_swIn 48 d_XModel_count_8 (by rw [c2]; decide) (by rw [c2]; decide) (by rw [c2]; rfl) (by decide) ?_
    refine ew_aload_n 0 d_XModel_count_48 rfl rfl ?_
    obtain ⟨v3, av3, bv3, h⟩ := gI_inv h
    refine ew_gI 0 1 d_XModel_count_49 fl_XModel_7 av3 bv3 ?_
    obtain ⟨hz, hm⟩ := Prod.mk.inj (Option.some.inj h)
    exact ew_ireturn d_XModel_count_52 rfl hz.symm hm.symm
  rw [if_neg c2] at h
  refine (Classical.em (l1 = (1 : Int32))).elim (fun c4 => ?_) (fun c4 => ?_)
  · rw [if_pos c4] at h
    refine ew_swIn 53 d_XModel_count_8 (by rw [c4]; decide) (by rw [c4]; decide) (by rw [c4]; rfl) (by decide) ?_
    refine ew_aload_n 0 d_XModel_count_53 rfl rfl ?_
    obtain ⟨v5, av5, bv5, h⟩ := gI_inv h
    refine ew_gI 0 9 d_XModel_count_54 fl_XModel_119 av5 bv5 ?_
    obtain ⟨hz, hm⟩ := Prod.mk.inj (Option.some.inj h)
    exact ew_ireturn d_XModel_count_57 rfl hz.symm hm.symm
  rw [if_neg c4] at h
  refine (Classical.em (l1 = (2 : Int32))).elim (fun c6 => ?_) (fun c6 => ?_)
  · rw [if_pos c6] at h
    refine ew_swIn 58 d_XModel_count_8 (by rw [c6]; decide) (by rw [c6]; decide) (by rw [c6]; rfl) (by decide) ?_
    refine ew_iconst (0) d_XModel_count_58 (by decide) ?_
    refine ew_istore_n (L' := [(0, .ref l0), (1, .int l1), (2, .int (0 : Int32)), (3, .int (0 : Int32))]) 3 [1, 2, 3, 0] d_XModel_count_59 rfl (by decide) rfl ?_
    exact ew_pick (L' := [(0, .ref l0), (2, .int (0 : Int32)), (3, .int (0 : Int32))]) [0, 2, 3] rfl (E_XModel_count_60 hn hl n l0 (0 : Int32) (0 : Int32) M1 h)
  rw [if_neg c6] at h
  refine (Classical.em (l1 = (3 : Int32))).elim (fun c7 => ?_) (fun c7 => ?_)
  · rw [if_pos c7] at h
    refine ew_swIn 93 d_XModel_count_8 (by rw [c7]; decide) (by rw [c7]; decide) (by rw [c7]; rfl) (by decide) ?_
    refine ew_aload_n 0 d_XModel_count_93 rfl rfl ?_
    obtain ⟨v8, av8, bv8, h⟩ := gI_inv h
    refine ew_gI 0 10 d_XModel_count_94 fl_XModel_155 av8 bv8 ?_
    obtain ⟨hz, hm⟩ := Prod.mk.inj (Option.some.inj h)
    exact ew_ireturn d_XModel_count_97 rfl hz.symm hm.symm
  rw [if_neg c7] at h
  refine (Classical.em (l1 = (4 : Int32))).elim (fun c9 => ?_) (fun c9 => ?_)
  · rw [if_pos c9] at h
    refine ew_swIn 98 d_XModel_count_8 (by rw [c9]; decide) (by rw [c9]; decide) (by rw [c9]; rfl) (by decide) ?_
    refine ew_aload_n 0 d_XModel_count_98 rfl rfl ?_
    obtain ⟨v10, av10, bv10, h⟩ := gI_inv h
    refine ew_gI 0 29 d_XModel_count_99 fl_XModel_170 av10 bv10 ?_
    obtain ⟨hz, hm⟩ := Prod.mk.inj (Option.some.inj h)
    exact ew_ireturn d_XModel_count_102 rfl hz.symm hm.symm
  rw [if_neg c9] at h
  refine (Classical.em (l1 = (5 : Int32))).elim (fun c11 => ?_) (fun c11 => ?_)
  · rw [if_pos c11] at h
    refine ew_swIn 103 d_XModel_count_8 (by rw [c11]; decide) (by rw [c11]; decide) (by rw [c11]; rfl) (by decide) ?_
    refine ew_aload_n 0 d_XModel_count_103 rfl rfl ?_
    obtain ⟨v12, av12, bv12, h⟩ := gI_inv h
    refine ew_gI 0 30 d_XModel_count_104 fl_XModel_173 av12 bv12 ?_
    obtain ⟨hz, hm⟩ := Prod.mk.inj (Option.some.inj h)
    exact ew_ireturn d_XModel_count_107 rfl hz.symm hm.symm
  rw [if_neg c11] at h
  have zc2 := lv_neT c2 (show (0 : Int32).toInt = 0 by decide)
  have zc4 := lv_neT c4 (show (1 : Int32).toInt = 1 by decide)
  have zc6 := lv_neT c6 (show (2 : Int32).toInt = 2 by decide)
  have zc7 := lv_neT c7 (show (3 : Int32).toInt = 3 by decide)
  have zc9 := lv_neT c9 (show (4 : Int32).toInt = 4 by decide)
  have zc11 := lv_neT c11 (show (5 : Int32).toInt = 5 by decide)
  refine ew_swOut 108 d_XModel_count_8 (by omega) (by decide) ?_
  refine ew_iconst (-1) d_XModel_count_108 (by decide) ?_
  obtain ⟨hz, hm⟩ := Prod.mk.inj (Option.some.inj h)
  exact ew_ireturn d_XModel_count_109 rfl hz.symm hm.symm
theorem T_XModel_count {n : Nat} {l0 : Nat} {l1 : Int32} {M Mf : PM} {res : qRs} (h : F_XModel_count n l0 l1 M = some (res, Mf)) : CT Y_XModel_count 0 0 [.ref l0, .int l1] M res Mf :=
  CT_of (by decide) (Nat.le_of_ble_eq_true rfl) (qHd_ne (by decide)) (fun g X ad0 => E_XModel_count (g := g) (X := X) (Z := (ad0, M, res, Mf, 0, 0)) (Nat.le_refl _) (Nat.le_refl _) h)
