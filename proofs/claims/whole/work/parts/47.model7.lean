theorem d_XModel_ask_0 : decode Y_XModel_ask.2.1 0 = .ok (.aload_n 0, 1) := by decide +kernel
theorem d_XModel_ask_1 : decode Y_XModel_ask.2.1 1 = .ok (.invokevirtual 205, 3) := by decide +kernel
theorem d_XModel_ask_4 : decode Y_XModel_ask.2.1 4 = .ok (.aload_n 0, 1) := by decide +kernel
theorem d_XModel_ask_5 : decode Y_XModel_ask.2.1 5 = .ok (.iconst 0, 1) := by decide +kernel
theorem d_XModel_ask_6 : decode Y_XModel_ask.2.1 6 = .ok (.putfield 201, 3) := by decide +kernel
theorem d_XModel_ask_9 : decode Y_XModel_ask.2.1 9 = .ok (.aload_n 0, 1) := by decide +kernel
theorem d_XModel_ask_10 : decode Y_XModel_ask.2.1 10 = .ok (.getfield 170, 3) := by decide +kernel
theorem d_XModel_ask_13 : decode Y_XModel_ask.2.1 13 = .ok (.bipush (7), 2) := by decide +kernel
theorem d_XModel_ask_15 : decode Y_XModel_ask.2.1 15 = .ok (.if_icmp .gt (12), 3) := by decide +kernel
theorem d_XModel_ask_18 : decode Y_XModel_ask.2.1 18 = .ok (.aload_n 0, 1) := by decide +kernel
theorem d_XModel_ask_19 : decode Y_XModel_ask.2.1 19 = .ok (.getfield 173, 3) := by decide +kernel
theorem d_XModel_ask_22 : decode Y_XModel_ask.2.1 22 = .ok (.bipush (6), 2) := by decide +kernel
theorem d_XModel_ask_24 : decode Y_XModel_ask.2.1 24 = .ok (.if_icmp .le (5), 3) := by decide +kernel
theorem d_XModel_ask_27 : decode Y_XModel_ask.2.1 27 = .ok (.iconst 2, 1) := by decide +kernel
theorem d_XModel_ask_28 : decode Y_XModel_ask.2.1 28 = .ok (.ireturn, 1) := by decide +kernel
theorem d_XModel_ask_29 : decode Y_XModel_ask.2.1 29 = .ok (.iconst 0, 1) := by decide +kernel
theorem d_XModel_ask_30 : decode Y_XModel_ask.2.1 30 = .ok (.istore_n 2, 1) := by decide +kernel
theorem d_XModel_ask_31 : decode Y_XModel_ask.2.1 31 = .ok (.iload_n 2, 1) := by decide +kernel
theorem d_XModel_ask_32 : decode Y_XModel_ask.2.1 32 = .ok (.iconst 1, 1) := by decide +kernel
theorem d_XModel_ask_33 : decode Y_XModel_ask.2.1 33 = .ok (.aload_n 0, 1) := by decide +kernel
theorem d_XModel_ask_34 : decode Y_XModel_ask.2.1 34 = .ok (.getfield 167, 3) := by decide +kernel
theorem d_XModel_ask_37 : decode Y_XModel_ask.2.1 37 = .ok (.ishl, 1) := by decide +kernel
theorem d_XModel_ask_38 : decode Y_XModel_ask.2.1 38 = .ok (.if_icmp .ge (110), 3) := by decide +kernel
theorem d_XModel_ask_41 : decode Y_XModel_ask.2.1 41 = .ok (.iconst 0, 1) := by decide +kernel
theorem d_XModel_ask_42 : decode Y_XModel_ask.2.1 42 = .ok (.istore_n 3, 1) := by decide +kernel
theorem d_XModel_ask_43 : decode Y_XModel_ask.2.1 43 = .ok (.iload_n 3, 1) := by decide +kernel
theorem d_XModel_ask_44 : decode Y_XModel_ask.2.1 44 = .ok (.aload_n 0, 1) := by decide +kernel
theorem d_XModel_ask_45 : decode Y_XModel_ask.2.1 45 = .ok (.getfield 167, 3) := by decide +kernel
theorem d_XModel_ask_48 : decode Y_XModel_ask.2.1 48 = .ok (.if_icmp .ge (32), 3) := by decide +kernel
theorem d_XModel_ask_51 : decode Y_XModel_ask.2.1 51 = .ok (.aload_n 0, 1) := by decide +kernel
theorem d_XModel_ask_52 : decode Y_XModel_ask.2.1 52 = .ok (.getfield 66, 3) := by decide +kernel
theorem d_XModel_ask_55 : decode Y_XModel_ask.2.1 55 = .ok (.aload_n 0, 1) := by decide +kernel
theorem d_XModel_ask_56 : decode Y_XModel_ask.2.1 56 = .ok (.getfield 75, 3) := by decide +kernel
theorem d_XModel_ask_59 : decode Y_XModel_ask.2.1 59 = .ok (.iload_n 3, 1) := by decide +kernel
theorem d_XModel_ask_60 : decode Y_XModel_ask.2.1 60 = .ok (.iaload, 1) := by decide +kernel
theorem d_XModel_ask_61 : decode Y_XModel_ask.2.1 61 = .ok (.iload_n 2, 1) := by decide +kernel
theorem d_XModel_ask_62 : decode Y_XModel_ask.2.1 62 = .ok (.aload_n 0, 1) := by decide +kernel
theorem d_XModel_ask_63 : decode Y_XModel_ask.2.1 63 = .ok (.getfield 167, 3) := by decide +kernel
theorem d_XModel_ask_66 : decode Y_XModel_ask.2.1 66 = .ok (.iconst 1, 1) := by decide +kernel
theorem d_XModel_ask_67 : decode Y_XModel_ask.2.1 67 = .ok (.isub, 1) := by decide +kernel
theorem d_XModel_ask_68 : decode Y_XModel_ask.2.1 68 = .ok (.iload_n 3, 1) := by decide +kernel
theorem d_XModel_ask_69 : decode Y_XModel_ask.2.1 69 = .ok (.isub, 1) := by decide +kernel
theorem d_XModel_ask_70 : decode Y_XModel_ask.2.1 70 = .ok (.ishr, 1) := by decide +kernel
theorem d_XModel_ask_71 : decode Y_XModel_ask.2.1 71 = .ok (.iconst 1, 1) := by decide +kernel
theorem d_XModel_ask_72 : decode Y_XModel_ask.2.1 72 = .ok (.iand, 1) := by decide +kernel
theorem d_XModel_ask_73 : decode Y_XModel_ask.2.1 73 = .ok (.iastore, 1) := by decide +kernel
theorem d_XModel_ask_74 : decode Y_XModel_ask.2.1 74 = .ok (.iinc 3 (1), 3) := by decide +kernel
theorem d_XModel_ask_77 : decode Y_XModel_ask.2.1 77 = .ok (.goto (-34), 3) := by decide +kernel
theorem d_XModel_ask_80 : decode Y_XModel_ask.2.1 80 = .ok (.iconst 0, 1) := by decide +kernel
theorem d_XModel_ask_81 : decode Y_XModel_ask.2.1 81 = .ok (.istore_n 3, 1) := by decide +kernel
theorem d_XModel_ask_82 : decode Y_XModel_ask.2.1 82 = .ok (.iload_n 3, 1) := by decide +kernel
theorem d_XModel_ask_83 : decode Y_XModel_ask.2.1 83 = .ok (.aload_n 0, 1) := by decide +kernel
theorem d_XModel_ask_84 : decode Y_XModel_ask.2.1 84 = .ok (.getfield 164, 3) := by decide +kernel
theorem d_XModel_ask_87 : decode Y_XModel_ask.2.1 87 = .ok (.if_icmp .ge (16), 3) := by decide +kernel
theorem d_XModel_ask_90 : decode Y_XModel_ask.2.1 90 = .ok (.aload_n 0, 1) := by decide +kernel
theorem d_XModel_ask_91 : decode Y_XModel_ask.2.1 91 = .ok (.getfield 72, 3) := by decide +kernel
theorem d_XModel_ask_94 : decode Y_XModel_ask.2.1 94 = .ok (.iload_n 3, 1) := by decide +kernel
theorem d_XModel_ask_95 : decode Y_XModel_ask.2.1 95 = .ok (.iconst 0, 1) := by decide +kernel
theorem d_XModel_ask_96 : decode Y_XModel_ask.2.1 96 = .ok (.iastore, 1) := by decide +kernel
theorem d_XModel_ask_97 : decode Y_XModel_ask.2.1 97 = .ok (.iinc 3 (1), 3) := by decide +kernel
theorem d_XModel_ask_100 : decode Y_XModel_ask.2.1 100 = .ok (.goto (-18), 3) := by decide +kernel
theorem d_XModel_ask_103 : decode Y_XModel_ask.2.1 103 = .ok (.iconst 1, 1) := by decide +kernel
theorem d_XModel_ask_104 : decode Y_XModel_ask.2.1 104 = .ok (.istore_n 3, 1) := by decide +kernel
theorem d_XModel_ask_105 : decode Y_XModel_ask.2.1 105 = .ok (.iload_n 3, 1) := by decide +kernel
theorem d_XModel_ask_106 : decode Y_XModel_ask.2.1 106 = .ok (.ifCond .eq (36), 3) := by decide +kernel
theorem d_XModel_ask_109 : decode Y_XModel_ask.2.1 109 = .ok (.aload_n 0, 1) := by decide +kernel
theorem d_XModel_ask_110 : decode Y_XModel_ask.2.1 110 = .ok (.iload_n 1, 1) := by decide +kernel
theorem d_XModel_ask_111 : decode Y_XModel_ask.2.1 111 = .ok (.invokevirtual 208, 3) := by decide +kernel
theorem d_XModel_ask_114 : decode Y_XModel_ask.2.1 114 = .ok (.istore 4, 2) := by decide +kernel
theorem d_XModel_ask_116 : decode Y_XModel_ask.2.1 116 = .ok (.iload 4, 2) := by decide +kernel
theorem d_XModel_ask_118 : decode Y_XModel_ask.2.1 118 = .ok (.ifCond .lt (11), 3) := by decide +kernel
theorem d_XModel_ask_121 : decode Y_XModel_ask.2.1 121 = .ok (.aload_n 0, 1) := by decide +kernel
theorem d_XModel_ask_122 : decode Y_XModel_ask.2.1 122 = .ok (.iload 4, 2) := by decide +kernel
theorem d_XModel_ask_124 : decode Y_XModel_ask.2.1 124 = .ok (.invokevirtual 211, 3) := by decide +kernel
theorem d_XModel_ask_127 : decode Y_XModel_ask.2.1 127 = .ok (.iconst 0, 1) := by decide +kernel
theorem d_XModel_ask_128 : decode Y_XModel_ask.2.1 128 = .ok (.ireturn, 1) := by decide +kernel
theorem d_XModel_ask_129 : decode Y_XModel_ask.2.1 129 = .ok (.aload_n 0, 1) := by decide +kernel
theorem d_XModel_ask_130 : decode Y_XModel_ask.2.1 130 = .ok (.iconst 0, 1) := by decide +kernel
theorem d_XModel_ask_131 : decode Y_XModel_ask.2.1 131 = .ok (.aload_n 0, 1) := by decide +kernel
theorem d_XModel_ask_132 : decode Y_XModel_ask.2.1 132 = .ok (.getfield 164, 3) := by decide +kernel
theorem d_XModel_ask_135 : decode Y_XModel_ask.2.1 135 = .ok (.invokevirtual 189, 3) := by decide +kernel
theorem d_XModel_ask_138 : decode Y_XModel_ask.2.1 138 = .ok (.istore_n 3, 1) := by decide +kernel
theorem d_XModel_ask_139 : decode Y_XModel_ask.2.1 139 = .ok (.goto (-34), 3) := by decide +kernel
theorem d_XModel_ask_142 : decode Y_XModel_ask.2.1 142 = .ok (.iinc 2 (1), 3) := by decide +kernel
theorem d_XModel_ask_145 : decode Y_XModel_ask.2.1 145 = .ok (.goto (-114), 3) := by decide +kernel
theorem d_XModel_ask_148 : decode Y_XModel_ask.2.1 148 = .ok (.iconst 1, 1) := by decide +kernel
theorem d_XModel_ask_149 : decode Y_XModel_ask.2.1 149 = .ok (.ireturn, 1) := by decide +kernel
def F_XModel_ask_27 (n : Nat) (M : PM) : qO :=
  some (.inl (some (.int (2 : Int32))), M)
set_option maxHeartbeats 4000000 in
set_option maxRecDepth 100000 in
theorem E_XModel_ask_27 {g : qG} {X : qX} {Z : qZ} (hn : 3 ≤ zn Z) (hl : 65 ≤ zl Z) {n : Nat} {M : PM} (h : F_XModel_ask_27 n M = some (zr Z, zf Z)) : EW Y_XModel_ask g X Z 27 [] [] M := by
  unfold F_XModel_ask_27 at h
  refine ew_iconst (2) d_XModel_ask_27 (by decide) ?_
  obtain ⟨hz, hm⟩ := Prod.mk.inj (Option.some.inj h)
  exact ew_ireturn d_XModel_ask_28 rfl hz.symm hm.symm
def F_XModel_ask_105 (n : Nat) (rec31 : Nat → Int32 → Int32 → PM → qO) : Nat → Nat → Int32 → Int32 → Int32 → PM → qO
  | 0, _, _, _, _, _ => none
  | f + 1, l0, l1, l2, l3, M =>
    if l3 = (0 : Int32) then
      bI (l2 + (1 : Int32)) (fun v2 =>
      rec31 l0 l1 v2 M)
    else
      kO 0 M l0 (
      cI (F_XModel_failsWith n l0 l1 M) (fun v4 M3 =>
      if v4 < (0 : Int32) then
        gI 0 M3 l0 23 (fun v6 =>
        kO 0 M3 l0 (
        cI (F_XModel_goesOn n l0 (0 : Int32) v6 M3) (fun v8 M7 =>
        (F_XModel_ask_105 n rec31 f) l0 l1 l2 v8 M7)))
      else
        kO 0 M3 l0 (
        cV (F_XModel_keepState n l0 v4 M3) (fun M9 =>
        some (.inl (some (.int (0 : Int32))), M9)))))
set_option maxHeartbeats 4000000 in
set_option maxRecDepth 100000 in
theorem E_XModel_ask_105 {g : qG} {X : qX} {Z : qZ} (hn : 3 ≤ zn Z) (hl : 65 ≤ zl Z) {n : Nat} {rec31 : Nat → Int32 → Int32 → PM → qO} (hrec31 : ∀ (l0 : Nat) (l1 : Int32) (l2 : Int32) (M : PM), rec31 l0 l1 l2 M = some (zr Z, zf Z) → EW Y_XModel_ask g X Z 31 [(0, .ref l0), (1, .int l1), (2, .int l2)] [] M) : ∀ (f : Nat) (l0 : Nat) (l1 : Int32) (l2 : Int32) (l3 : Int32) (M : PM), F_XModel_ask_105 n rec31 f l0 l1 l2 l3 M = some (zr Z, zf Z) → EW Y_XModel_ask g X Z 105 [(0, .ref l0), (1, .int l1), (2, .int l2), (3, .int l3)] [] M := by
  intro f
  induction f with
  | zero => intro l0 l1 l2 l3 M h; rw [F_XModel_ask_105] at h; cases h
  | succ f ih =>
    intro l0 l1 l2 l3 M h
    rw [F_XModel_ask_105] at h
    refine ew_iload_n 3 d_XModel_ask_105 rfl rfl ?_
    refine ew_if_eq 142 d_XModel_ask_106 (by decide) (fun c1 => ?_) (fun c1 => ?_)
    · rw [if_pos c1] at h
      obtain ⟨v2, ev2, h⟩ := bI_inv h
      refine ew_iinc (L' := [(0, .ref l0), (1, .int l1), (2, .int v2), (3, .int l3)]) v2 [1, 2, 0, 3] d_XModel_ask_142 rfl (by rw [ev2]; rfl) (by decide) rfl ?_
      refine ew_goto 31 d_XModel_ask_145 (by decide) ?_
      exact ew_pick (L' := [(0, .ref l0), (1, .int l1), (2, .int v2)]) [0, 1, 2] rfl (hrec31 l0 l1 v2 M h)
    · rw [if_neg c1] at h
      refine ew_aload_n 0 d_XModel_ask_109 rfl rfl ?_
      refine ew_iload_n 1 d_XModel_ask_110 rfl rfl ?_
      obtain ⟨kM3, h⟩ := kO_inv h
      obtain ⟨v4, M3, hM3, h⟩ := cI_inv h
      refine ew_callV 0 [.int l1] d_XModel_ask_111 cv_XModel_208 (T_XModel_failsWith hM3) kM3 (Nat.le_trans (Nat.le_of_ble_eq_true rfl) hn) (Nat.le_trans (Nat.le_of_ble_eq_true rfl) hl) (Nat.le_of_ble_eq_true rfl) rfl rfl ?_
      refine ew_istore (L' := [(0, .ref l0), (1, .int l1), (2, .int l2), (3, .int l3), (4, .int v4)]) [1, 2, 3, 4, 0] d_XModel_ask_114 (by decide) rfl ?_
      refine ew_iload d_XModel_ask_116 rfl ?_
      refine ew_if_lt 129 d_XModel_ask_118 (by decide) (fun c5 => ?_) (fun c5 => ?_)
      · rw [if_pos c5] at h
        refine ew_aload_n 0 d_XModel_ask_129 rfl rfl ?_
        refine ew_iconst (0) d_XModel_ask_130 (by decide) ?_
        refine ew_aload_n 0 d_XModel_ask_131 rfl rfl ?_
        obtain ⟨v6, av6, bv6, h⟩ := gI_inv h
        refine ew_gI 0 23 d_XModel_ask_132 fl_XModel_164 av6 bv6 ?_
        obtain ⟨kM7, h⟩ := kO_inv h
        obtain ⟨v8, M7, hM7, h⟩ := cI_inv h
        refine ew_callV 0 [.int (0 : Int32), .int v6] d_XModel_ask_135 cv_XModel_189 (T_XModel_goesOn hM7) kM7 (Nat.le_trans (Nat.le_of_ble_eq_true rfl) hn) (Nat.le_trans (Nat.le_of_ble_eq_true rfl) hl) (Nat.le_of_ble_eq_true rfl) rfl rfl ?_
        refine ew_istore_n (L' := [(0, .ref l0), (1, .int l1), (2, .int l2), (3, .int v8), (4, .int v4)]) 3 [1, 2, 3, 0, 4] d_XModel_ask_138 rfl (by decide) rfl ?_
        refine ew_goto 105 d_XModel_ask_139 (by decide) ?_
        exact ew_pick (L' := [(0, .ref l0), (1, .int l1), (2, .int l2), (3, .int v8)]) [0, 1, 2, 3] rfl (ih l0 l1 l2 v8 M7 h)
      · rw [if_neg c5] at h
        refine ew_aload_n 0 d_XModel_ask_121 rfl rfl ?_
        refine ew_iload d_XModel_ask_122 rfl ?_
        obtain ⟨kM9, h⟩ := kO_inv h
        obtain ⟨M9, hM9, h⟩ := cV_inv h
        refine ew_callV 0 [.int v4] d_XModel_ask_124 cv_XModel_211 (T_XModel_keepState hM9) kM9 (Nat.le_trans (Nat.le_of_ble_eq_true rfl) hn) (Nat.le_trans (Nat.le_of_ble_eq_true rfl) hl) (Nat.le_of_ble_eq_true rfl) rfl rfl ?_
        refine ew_iconst (0) d_XModel_ask_127 (by decide) ?_
        obtain ⟨hz, hm⟩ := Prod.mk.inj (Option.some.inj h)
        exact ew_ireturn d_XModel_ask_128 rfl hz.symm hm.symm
def F_XModel_ask_82 (n : Nat) (rec31 : Nat → Int32 → Int32 → PM → qO) : Nat → Nat → Int32 → Int32 → Int32 → PM → qO
  | 0, _, _, _, _, _ => none
  | f + 1, l0, l1, l2, l3, M =>
    gI 0 M l0 23 (fun v1 =>
    if v1 ≤ l3 then
      F_XModel_ask_105 n rec31 n l0 l1 l2 (1 : Int32) M
    else
      gR 0 M l0 27 (fun v3 =>
      wI M v3 l3 (0 : Int32) (fun M4 =>
      bI (l3 + (1 : Int32)) (fun v5 =>
      (F_XModel_ask_82 n rec31 f) l0 l1 l2 v5 M4))))
set_option maxHeartbeats 4000000 in
set_option maxRecDepth 100000 in
theorem E_XModel_ask_82 {g : qG} {X : qX} {Z : qZ} (hn : 3 ≤ zn Z) (hl : 65 ≤ zl Z) {n : Nat} {rec31 : Nat → Int32 → Int32 → PM → qO} (hrec31 : ∀ (l0 : Nat) (l1 : Int32) (l2 : Int32) (M : PM), rec31 l0 l1 l2 M = some (zr Z, zf Z) → EW Y_XModel_ask g X Z 31 [(0, .ref l0), (1, .int l1), (2, .int l2)] [] M) : ∀ (f : Nat) (l0 : Nat) (l1 : Int32) (l2 : Int32) (l3 : Int32) (M : PM), F_XModel_ask_82 n rec31 f l0 l1 l2 l3 M = some (zr Z, zf Z) → EW Y_XModel_ask g X Z 82 [(0, .ref l0), (1, .int l1), (2, .int l2), (3, .int l3)] [] M := by
  intro f
  induction f with
  | zero => intro l0 l1 l2 l3 M h; rw [F_XModel_ask_82] at h; cases h
  | succ f ih =>
    intro l0 l1 l2 l3 M h
    rw [F_XModel_ask_82] at h
    refine ew_iload_n 3 d_XModel_ask_82 rfl rfl ?_
    refine ew_aload_n 0 d_XModel_ask_83 rfl rfl ?_
    obtain ⟨v1, av1, bv1, h⟩ := gI_inv h
    refine ew_gI 0 23 d_XModel_ask_84 fl_XModel_164 av1 bv1 ?_
    refine ew_icmp_ge 103 d_XModel_ask_87 (by decide) (fun c2 => ?_) (fun c2 => ?_)
    · rw [if_pos c2] at h
      refine ew_iconst (1) d_XModel_ask_103 (by decide) ?_
      refine ew_istore_n (L' := [(0, .ref l0), (1, .int l1), (2, .int l2), (3, .int (1 : Int32))]) 3 [1, 2, 3, 0] d_XModel_ask_104 rfl (by decide) rfl ?_
      exact E_XModel_ask_105 hn hl hrec31 n l0 l1 l2 (1 : Int32) M h
    · rw [if_neg c2] at h
      refine ew_aload_n 0 d_XModel_ask_90 rfl rfl ?_
      obtain ⟨v3, av3, bv3, h⟩ := gR_inv h
      refine ew_gR 0 27 d_XModel_ask_91 fl_XModel_72 av3 bv3 ?_
      refine ew_iload_n 3 d_XModel_ask_94 rfl rfl ?_
      refine ew_iconst (0) d_XModel_ask_95 (by decide) ?_
      obtain ⟨M4, aM4, bM4, cM4, eM4, h⟩ := wI_inv h
      refine ew_wI d_XModel_ask_96 aM4 bM4 cM4 eM4 ?_
      obtain ⟨v5, ev5, h⟩ := bI_inv h
      refine ew_iinc (L' := [(0, .ref l0), (1, .int l1), (2, .int l2), (3, .int v5)]) v5 [1, 2, 3, 0] d_XModel_ask_97 rfl (by rw [ev5]; rfl) (by decide) rfl ?_
      refine ew_goto 82 d_XModel_ask_100 (by decide) ?_
      exact ih l0 l1 l2 v5 M4 h
def F_XModel_ask_43 (n : Nat) (rec31 : Nat → Int32 → Int32 → PM → qO) : Nat → Nat → Int32 → Int32 → Int32 → PM → qO
  | 0, _, _, _, _, _ => none
  | f + 1, l0, l1, l2, l3, M =>
    gI 0 M l0 25 (fun v1 =>
    if v1 ≤ l3 then
      F_XModel_ask_82 n rec31 n l0 l1 l2 (0 : Int32) M
    else
      gR 0 M l0 22 (fun v3 =>
      gR 0 M l0 28 (fun v4 =>
      lI M v4 l3 (fun v5 =>
      gI 0 M l0 25 (fun v6 =>
      wI M v3 v5 ((l2 >>> (((v6 - (1 : Int32)) - l3) &&& 31)) &&& (1 : Int32)) (fun M7 =>
      bI (l3 + (1 : Int32)) (fun v8 =>
      (F_XModel_ask_43 n rec31 f) l0 l1 l2 v8 M7)))))))
set_option maxHeartbeats 4000000 in
set_option maxRecDepth 100000 in
theorem E_XModel_ask_43 {g : qG} {X : qX} {Z : qZ} (hn : 3 ≤ zn Z) (hl : 65 ≤ zl Z) {n : Nat} {rec31 : Nat → Int32 → Int32 → PM → qO} (hrec31 : ∀ (l0 : Nat) (l1 : Int32) (l2 : Int32) (M : PM), rec31 l0 l1 l2 M = some (zr Z, zf Z) → EW Y_XModel_ask g X Z 31 [(0, .ref l0), (1, .int l1), (2, .int l2)] [] M) : ∀ (f : Nat) (l0 : Nat) (l1 : Int32) (l2 : Int32) (l3 : Int32) (M : PM), F_XModel_ask_43 n rec31 f l0 l1 l2 l3 M = some (zr Z, zf Z) → EW Y_XModel_ask g X Z 43 [(0, .ref l0), (1, .int l1), (2, .int l2), (3, .int l3)] [] M := by
  intro f
  induction f with
  | zero => intro l0 l1 l2 l3 M h; rw [F_XModel_ask_43] at h; cases h
  | succ f ih =>
    intro l0 l1 l2 l3 M h
    rw [F_XModel_ask_43] at h
    refine ew_iload_n 3 d_XModel_ask_43 rfl rfl ?_
    refine ew_aload_n 0 d_XModel_ask_44 rfl rfl ?_
    obtain ⟨v1, av1, bv1, h⟩ := gI_inv h
    refine ew_gI 0 25 d_XModel_ask_45 fl_XModel_167 av1 bv1 ?_
    refine ew_icmp_ge 80 d_XModel_ask_48 (by decide) (fun c2 => ?_) (fun c2 => ?_)
    · rw [if_pos c2] at h
      refine ew_iconst (0) d_XModel_ask_80 (by decide) ?_
      refine ew_istore_n (L' := [(0, .ref l0), (1, .int l1), (2, .int l2), (3, .int (0 : Int32))]) 3 [1, 2, 3, 0] d_XModel_ask_81 rfl (by decide) rfl ?_
      exact E_XModel_ask_82 hn hl hrec31 n l0 l1 l2 (0 : Int32) M h
    · rw [if_neg c2] at h
      refine ew_aload_n 0 d_XModel_ask_51 rfl rfl ?_
      obtain ⟨v3, av3, bv3, h⟩ := gR_inv h
      refine ew_gR 0 22 d_XModel_ask_52 fl_XModel_66 av3 bv3 ?_
      refine ew_aload_n 0 d_XModel_ask_55 rfl rfl ?_
      obtain ⟨v4, av4, bv4, h⟩ := gR_inv h
      refine ew_gR 0 28 d_XModel_ask_56 fl_XModel_75 av4 bv4 ?_
      refine ew_iload_n 3 d_XModel_ask_59 rfl rfl ?_
      obtain ⟨v5, av5, bv5, cv5, ev5, h⟩ := lI_inv h
      refine ew_lI d_XModel_ask_60 av5 bv5 cv5 ev5 ?_
      refine ew_iload_n 2 d_XModel_ask_61 rfl rfl ?_
      refine ew_aload_n 0 d_XModel_ask_62 rfl rfl ?_
      obtain ⟨v6, av6, bv6, h⟩ := gI_inv h
      refine ew_gI 0 25 d_XModel_ask_63 fl_XModel_167 av6 bv6 ?_
      refine ew_iconst (1) d_XModel_ask_66 (by decide) ?_
      refine ew_isub d_XModel_ask_67 ?_
      refine ew_iload_n 3 d_XModel_ask_68 rfl rfl ?_
      refine ew_isub d_XModel_ask_69 ?_
      refine ew_ishr d_XModel_ask_70 ?_
      refine ew_iconst (1) d_XModel_ask_71 (by decide) ?_
      refine ew_iand d_XModel_ask_72 ?_
      obtain ⟨M7, aM7, bM7, cM7, eM7, h⟩ := wI_inv h
      refine ew_wI d_XModel_ask_73 aM7 bM7 cM7 eM7 ?_
      obtain ⟨v8, ev8, h⟩ := bI_inv h
      refine ew_iinc (L' := [(0, .ref l0), (1, .int l1), (2, .int l2), (3, .int v8)]) v8 [1, 2, 3, 0] d_XModel_ask_74 rfl (by rw [ev8]; rfl) (by decide) rfl ?_
      refine ew_goto 43 d_XModel_ask_77 (by decide) ?_
      exact ih l0 l1 l2 v8 M7 h
def F_XModel_ask_31 (n : Nat) : Nat → Nat → Int32 → Int32 → PM → qO
  | 0, _, _, _, _ => none
  | f + 1, l0, l1, l2, M =>
    gI 0 M l0 25 (fun v1 =>
    if ((1 : Int32) <<< (v1 &&& 31)) ≤ l2 then
      some (.inl (some (.int (1 : Int32))), M)
    else
      F_XModel_ask_43 n (F_XModel_ask_31 n f) n l0 l1 l2 (0 : Int32) M)
set_option maxHeartbeats 4000000 in
set_option maxRecDepth 100000 in
theorem E_XModel_ask_31 {g : qG} {X : qX} {Z : qZ} (hn : 3 ≤ zn Z) (hl : 65 ≤ zl Z) {n : Nat} : ∀ (f : Nat) (l0 : Nat) (l1 : Int32) (l2 : Int32) (M : PM), F_XModel_ask_31 n f l0 l1 l2 M = some (zr Z, zf Z) → EW Y_XModel_ask g X Z 31 [(0, .ref l0), (1, .int l1), (2, .int l2)] [] M := by
  intro f
  induction f with
  | zero => intro l0 l1 l2 M h; rw [F_XModel_ask_31] at h; cases h
  | succ f ih =>
    intro l0 l1 l2 M h
    rw [F_XModel_ask_31] at h
    refine ew_iload_n 2 d_XModel_ask_31 rfl rfl ?_
    refine ew_iconst (1) d_XModel_ask_32 (by decide) ?_
    refine ew_aload_n 0 d_XModel_ask_33 rfl rfl ?_
    obtain ⟨v1, av1, bv1, h⟩ := gI_inv h
    refine ew_gI 0 25 d_XModel_ask_34 fl_XModel_167 av1 bv1 ?_
    refine ew_ishl d_XModel_ask_37 ?_
    refine ew_icmp_ge 148 d_XModel_ask_38 (by decide) (fun c2 => ?_) (fun c2 => ?_)
    · rw [if_pos c2] at h
      refine ew_iconst (1) d_XModel_ask_148 (by decide) ?_
      obtain ⟨hz, hm⟩ := Prod.mk.inj (Option.some.inj h)
      exact ew_ireturn d_XModel_ask_149 rfl hz.symm hm.symm
    · rw [if_neg c2] at h
      refine ew_iconst (0) d_XModel_ask_41 (by decide) ?_
      refine ew_istore_n (L' := [(0, .ref l0), (1, .int l1), (2, .int l2), (3, .int (0 : Int32))]) 3 [1, 2, 3, 0] d_XModel_ask_42 rfl (by decide) rfl ?_
      exact E_XModel_ask_43 hn hl ih n l0 l1 l2 (0 : Int32) M h
def F_XModel_ask (n : Nat) (l0 : Nat) (l1 : Int32) (M : PM) : qO :=
  kO 0 M l0 (
  cV (F_XModel_gather n l0 M) (fun M1 =>
  pF 0 M1 l0 31 (.int (0 : Int32)) (fun M2 =>
  gI 0 M2 l0 29 (fun v3 =>
  if (7 : Int32) < v3 then
    F_XModel_ask_27 n M2
  else
    gI 0 M2 l0 30 (fun v5 =>
    if v5 ≤ (6 : Int32) then
      F_XModel_ask_31 n n l0 l1 (0 : Int32) M2
    else
      F_XModel_ask_27 n M2)))))
set_option maxHeartbeats 4000000 in
set_option maxRecDepth 100000 in
theorem E_XModel_ask {g : qG} {X : qX} {Z : qZ} (hn : 3 ≤ zn Z) (hl : 65 ≤ zl Z) {n : Nat} {l0 : Nat} {l1 : Int32} {M : PM} (h : F_XModel_ask n l0 l1 M = some (zr Z, zf Z)) : EW Y_XModel_ask g X Z 0 [(0, .ref l0), (1, .int l1)] [] M := by
  unfold F_XModel_ask at h
  refine ew_aload_n 0 d_XModel_ask_0 rfl rfl ?_
  obtain ⟨kM1, h⟩ := kO_inv h
  obtain ⟨M1, hM1, h⟩ := cV_inv h
  refine ew_callV 0 [] d_XModel_ask_1 cv_XModel_205 (T_XModel_gather hM1) kM1 (Nat.le_trans (Nat.le_of_ble_eq_true rfl) hn) (Nat.le_trans (Nat.le_of_ble_eq_true rfl) hl) (Nat.le_of_ble_eq_true rfl) rfl rfl ?_
  refine ew_aload_n 0 d_XModel_ask_4 rfl rfl ?_
  refine ew_iconst (0) d_XModel_ask_5 (by decide) ?_
  obtain ⟨M2, aM2, eM2, h⟩ := pF_inv h
  refine ew_pF 0 31 d_XModel_ask_6 fl_XModel_201 aM2 eM2 (fun ad => ⟨rfl, rfl⟩) ?_
  refine ew_aload_n 0 d_XModel_ask_9 rfl rfl ?_
  obtain ⟨v3, av3, bv3, h⟩ := gI_inv h
  refine ew_gI 0 29 d_XModel_ask_10 fl_XModel_170 av3 bv3 ?_
  refine ew_bipush (7) d_XModel_ask_13 (by decide +kernel) ?_
  refine ew_icmp_gt 27 d_XModel_ask_15 (by decide) (fun c4 => ?_) (fun c4 => ?_)
  · rw [if_pos c4] at h
    exact ew_pick (L' := []) [] rfl (E_XModel_ask_27 hn hl h)
  · rw [if_neg c4] at h
    refine ew_aload_n 0 d_XModel_ask_18 rfl rfl ?_
    obtain ⟨v5, av5, bv5, h⟩ := gI_inv h
    refine ew_gI 0 30 d_XModel_ask_19 fl_XModel_173 av5 bv5 ?_
    refine ew_bipush (6) d_XModel_ask_22 (by decide +kernel) ?_
    refine ew_icmp_le 29 d_XModel_ask_24 (by decide) (fun c6 => ?_) (fun c6 => ?_)
    · rw [if_pos c6] at h
      refine ew_iconst (0) d_XModel_ask_29 (by decide) ?_
      refine ew_istore_n (L' := [(0, .ref l0), (1, .int l1), (2, .int (0 : Int32))]) 2 [1, 2, 0] d_XModel_ask_30 rfl (by decide) rfl ?_
      exact E_XModel_ask_31 hn hl n l0 l1 (0 : Int32) M2 h
    · rw [if_neg c6] at h
      exact ew_pick (L' := []) [] rfl (E_XModel_ask_27 hn hl h)
theorem T_XModel_ask {n : Nat} {l0 : Nat} {l1 : Int32} {M Mf : PM} {res : qRs} (h : F_XModel_ask n l0 l1 M = some (res, Mf)) : CT Y_XModel_ask 3 65 [.ref l0, .int l1] M res Mf :=
  CT_of (by decide) (Nat.le_of_ble_eq_true rfl) (qHd_ne (by decide)) (fun g X ad0 => E_XModel_ask (g := g) (X := X) (Z := (ad0, M, res, Mf, 3, 65)) (Nat.le_refl _) (Nat.le_refl _) h)
theorem d_XModel_run_0 : decode Y_XModel_run.2.1 0 = .ok (.aload_n 0, 1) := by decide +kernel
theorem d_XModel_run_1 : decode Y_XModel_run.2.1 1 = .ok (.iconst 0, 1) := by decide +kernel
theorem d_XModel_run_2 : decode Y_XModel_run.2.1 2 = .ok (.putfield 87, 3) := by decide +kernel
theorem d_XModel_run_5 : decode Y_XModel_run.2.1 5 = .ok (.iload_n 1, 1) := by decide +kernel
theorem d_XModel_run_6 : decode Y_XModel_run.2.1 6 = .ok (.iconst 0, 1) := by decide +kernel
theorem d_XModel_run_7 : decode Y_XModel_run.2.1 7 = .ok (.bipush (8), 2) := by decide +kernel
theorem d_XModel_run_9 : decode Y_XModel_run.2.1 9 = .ok (.invokestatic 115, 3) := by decide +kernel
theorem d_XModel_run_12 : decode Y_XModel_run.2.1 12 = .ok (.ifCond .ne (9), 3) := by decide +kernel
theorem d_XModel_run_15 : decode Y_XModel_run.2.1 15 = .ok (.aload_n 0, 1) := by decide +kernel
theorem d_XModel_run_16 : decode Y_XModel_run.2.1 16 = .ok (.iconst 1, 1) := by decide +kernel
theorem d_XModel_run_17 : decode Y_XModel_run.2.1 17 = .ok (.invokevirtual 111, 3) := by decide +kernel
theorem d_XModel_run_20 : decode Y_XModel_run.2.1 20 = .ok (.ireturn, 1) := by decide +kernel
theorem d_XModel_run_21 : decode Y_XModel_run.2.1 21 = .ok (.aload_n 0, 1) := by decide +kernel
theorem d_XModel_run_22 : decode Y_XModel_run.2.1 22 = .ok (.invokevirtual 84, 3) := by decide +kernel
theorem d_XModel_run_25 : decode Y_XModel_run.2.1 25 = .ok (.aload_n 0, 1) := by decide +kernel
theorem d_XModel_run_26 : decode Y_XModel_run.2.1 26 = .ok (.invokevirtual 214, 3) := by decide +kernel
theorem d_XModel_run_29 : decode Y_XModel_run.2.1 29 = .ok (.aload_n 0, 1) := by decide +kernel
theorem d_XModel_run_30 : decode Y_XModel_run.2.1 30 = .ok (.iconst 1, 1) := by decide +kernel
theorem d_XModel_run_31 : decode Y_XModel_run.2.1 31 = .ok (.invokevirtual 217, 3) := by decide +kernel
theorem d_XModel_run_34 : decode Y_XModel_run.2.1 34 = .ok (.iconst 0, 1) := by decide +kernel
theorem d_XModel_run_35 : decode Y_XModel_run.2.1 35 = .ok (.istore_n 2, 1) := by decide +kernel
theorem d_XModel_run_36 : decode Y_XModel_run.2.1 36 = .ok (.iload_n 2, 1) := by decide +kernel
theorem d_XModel_run_37 : decode Y_XModel_run.2.1 37 = .ok (.iload_n 1, 1) := by decide +kernel
theorem d_XModel_run_38 : decode Y_XModel_run.2.1 38 = .ok (.if_icmp .ge (14), 3) := by decide +kernel
theorem d_XModel_run_41 : decode Y_XModel_run.2.1 41 = .ok (.aload_n 0, 1) := by decide +kernel
theorem d_XModel_run_42 : decode Y_XModel_run.2.1 42 = .ok (.iconst 0, 1) := by decide +kernel
theorem d_XModel_run_43 : decode Y_XModel_run.2.1 43 = .ok (.invokevirtual 217, 3) := by decide +kernel
theorem d_XModel_run_46 : decode Y_XModel_run.2.1 46 = .ok (.iinc 2 (1), 3) := by decide +kernel
theorem d_XModel_run_49 : decode Y_XModel_run.2.1 49 = .ok (.goto (-13), 3) := by decide +kernel
theorem d_XModel_run_52 : decode Y_XModel_run.2.1 52 = .ok (.iconst 0, 1) := by decide +kernel
theorem d_XModel_run_53 : decode Y_XModel_run.2.1 53 = .ok (.istore_n 2, 1) := by decide +kernel
theorem d_XModel_run_54 : decode Y_XModel_run.2.1 54 = .ok (.iload_n 2, 1) := by decide +kernel
theorem d_XModel_run_55 : decode Y_XModel_run.2.1 55 = .ok (.aload_n 0, 1) := by decide +kernel
theorem d_XModel_run_56 : decode Y_XModel_run.2.1 56 = .ok (.getfield 119, 3) := by decide +kernel
theorem d_XModel_run_59 : decode Y_XModel_run.2.1 59 = .ok (.if_icmp .ge (21), 3) := by decide +kernel
theorem d_XModel_run_62 : decode Y_XModel_run.2.1 62 = .ok (.aload_n 0, 1) := by decide +kernel
theorem d_XModel_run_63 : decode Y_XModel_run.2.1 63 = .ok (.getfield 57, 3) := by decide +kernel
theorem d_XModel_run_66 : decode Y_XModel_run.2.1 66 = .ok (.iload_n 2, 1) := by decide +kernel
theorem d_XModel_run_67 : decode Y_XModel_run.2.1 67 = .ok (.aload_n 0, 1) := by decide +kernel
theorem d_XModel_run_68 : decode Y_XModel_run.2.1 68 = .ok (.getfield 54, 3) := by decide +kernel
theorem d_XModel_run_71 : decode Y_XModel_run.2.1 71 = .ok (.iload_n 2, 1) := by decide +kernel
theorem d_XModel_run_72 : decode Y_XModel_run.2.1 72 = .ok (.iaload, 1) := by decide +kernel
theorem d_XModel_run_73 : decode Y_XModel_run.2.1 73 = .ok (.iastore, 1) := by decide +kernel
theorem d_XModel_run_74 : decode Y_XModel_run.2.1 74 = .ok (.iinc 2 (1), 3) := by decide +kernel
theorem d_XModel_run_77 : decode Y_XModel_run.2.1 77 = .ok (.goto (-23), 3) := by decide +kernel
theorem d_XModel_run_80 : decode Y_XModel_run.2.1 80 = .ok (.aload_n 0, 1) := by decide +kernel
theorem d_XModel_run_81 : decode Y_XModel_run.2.1 81 = .ok (.invokevirtual 214, 3) := by decide +kernel
theorem d_XModel_run_84 : decode Y_XModel_run.2.1 84 = .ok (.iconst 0, 1) := by decide +kernel
theorem d_XModel_run_85 : decode Y_XModel_run.2.1 85 = .ok (.istore_n 2, 1) := by decide +kernel
theorem d_XModel_run_86 : decode Y_XModel_run.2.1 86 = .ok (.iload_n 2, 1) := by decide +kernel
theorem d_XModel_run_87 : decode Y_XModel_run.2.1 87 = .ok (.iload_n 1, 1) := by decide +kernel
theorem d_XModel_run_88 : decode Y_XModel_run.2.1 88 = .ok (.if_icmp .ge (14), 3) := by decide +kernel
theorem d_XModel_run_91 : decode Y_XModel_run.2.1 91 = .ok (.aload_n 0, 1) := by decide +kernel
theorem d_XModel_run_92 : decode Y_XModel_run.2.1 92 = .ok (.iconst 0, 1) := by decide +kernel
theorem d_XModel_run_93 : decode Y_XModel_run.2.1 93 = .ok (.invokevirtual 217, 3) := by decide +kernel
theorem d_XModel_run_96 : decode Y_XModel_run.2.1 96 = .ok (.iinc 2 (1), 3) := by decide +kernel
theorem d_XModel_run_99 : decode Y_XModel_run.2.1 99 = .ok (.goto (-13), 3) := by decide +kernel
theorem d_XModel_run_102 : decode Y_XModel_run.2.1 102 = .ok (.aload_n 0, 1) := by decide +kernel
theorem d_XModel_run_103 : decode Y_XModel_run.2.1 103 = .ok (.iconst 2, 1) := by decide +kernel
theorem d_XModel_run_104 : decode Y_XModel_run.2.1 104 = .ok (.invokevirtual 161, 3) := by decide +kernel
theorem d_XModel_run_107 : decode Y_XModel_run.2.1 107 = .ok (.aload_n 0, 1) := by decide +kernel
theorem d_XModel_run_108 : decode Y_XModel_run.2.1 108 = .ok (.invokevirtual 146, 3) := by decide +kernel
theorem d_XModel_run_111 : decode Y_XModel_run.2.1 111 = .ok (.iconst 0, 1) := by decide +kernel
theorem d_XModel_run_112 : decode Y_XModel_run.2.1 112 = .ok (.istore_n 2, 1) := by decide +kernel
theorem d_XModel_run_113 : decode Y_XModel_run.2.1 113 = .ok (.iload_n 2, 1) := by decide +kernel
theorem d_XModel_run_114 : decode Y_XModel_run.2.1 114 = .ok (.aload_n 0, 1) := by decide +kernel
theorem d_XModel_run_115 : decode Y_XModel_run.2.1 115 = .ok (.getfield 119, 3) := by decide +kernel
theorem d_XModel_run_118 : decode Y_XModel_run.2.1 118 = .ok (.if_icmp .ge (55), 3) := by decide +kernel
theorem d_XModel_run_121 : decode Y_XModel_run.2.1 121 = .ok (.aload_n 0, 1) := by decide +kernel
theorem d_XModel_run_122 : decode Y_XModel_run.2.1 122 = .ok (.getfield 45, 3) := by decide +kernel
theorem d_XModel_run_125 : decode Y_XModel_run.2.1 125 = .ok (.iload_n 2, 1) := by decide +kernel
theorem d_XModel_run_126 : decode Y_XModel_run.2.1 126 = .ok (.baload, 1) := by decide +kernel
theorem d_XModel_run_127 : decode Y_XModel_run.2.1 127 = .ok (.ifCond .eq (40), 3) := by decide +kernel
theorem d_XModel_run_130 : decode Y_XModel_run.2.1 130 = .ok (.aload_n 0, 1) := by decide +kernel
theorem d_XModel_run_131 : decode Y_XModel_run.2.1 131 = .ok (.getfield 60, 3) := by decide +kernel
theorem d_XModel_run_134 : decode Y_XModel_run.2.1 134 = .ok (.iload_n 2, 1) := by decide +kernel
theorem d_XModel_run_135 : decode Y_XModel_run.2.1 135 = .ok (.aload_n 0, 1) := by decide +kernel
theorem d_XModel_run_136 : decode Y_XModel_run.2.1 136 = .ok (.getfield 51, 3) := by decide +kernel
theorem d_XModel_run_139 : decode Y_XModel_run.2.1 139 = .ok (.aload_n 0, 1) := by decide +kernel
theorem d_XModel_run_140 : decode Y_XModel_run.2.1 140 = .ok (.getfield 42, 3) := by decide +kernel
theorem d_XModel_run_143 : decode Y_XModel_run.2.1 143 = .ok (.iload_n 2, 1) := by decide +kernel
theorem d_XModel_run_144 : decode Y_XModel_run.2.1 144 = .ok (.iaload, 1) := by decide +kernel
theorem d_XModel_run_145 : decode Y_XModel_run.2.1 145 = .ok (.iaload, 1) := by decide +kernel
theorem d_XModel_run_146 : decode Y_XModel_run.2.1 146 = .ok (.iastore, 1) := by decide +kernel
theorem d_XModel_run_147 : decode Y_XModel_run.2.1 147 = .ok (.aload_n 0, 1) := by decide +kernel
theorem d_XModel_run_148 : decode Y_XModel_run.2.1 148 = .ok (.aload_n 0, 1) := by decide +kernel
theorem d_XModel_run_149 : decode Y_XModel_run.2.1 149 = .ok (.getfield 57, 3) := by decide +kernel
theorem d_XModel_run_152 : decode Y_XModel_run.2.1 152 = .ok (.iload_n 2, 1) := by decide +kernel
theorem d_XModel_run_153 : decode Y_XModel_run.2.1 153 = .ok (.iaload, 1) := by decide +kernel
theorem d_XModel_run_154 : decode Y_XModel_run.2.1 154 = .ok (.invokevirtual 143, 3) := by decide +kernel
theorem d_XModel_run_157 : decode Y_XModel_run.2.1 157 = .ok (.aload_n 0, 1) := by decide +kernel
theorem d_XModel_run_158 : decode Y_XModel_run.2.1 158 = .ok (.aload_n 0, 1) := by decide +kernel
theorem d_XModel_run_159 : decode Y_XModel_run.2.1 159 = .ok (.getfield 60, 3) := by decide +kernel
theorem d_XModel_run_162 : decode Y_XModel_run.2.1 162 = .ok (.iload_n 2, 1) := by decide +kernel
theorem d_XModel_run_163 : decode Y_XModel_run.2.1 163 = .ok (.iaload, 1) := by decide +kernel
theorem d_XModel_run_164 : decode Y_XModel_run.2.1 164 = .ok (.invokevirtual 143, 3) := by decide +kernel
theorem d_XModel_run_167 : decode Y_XModel_run.2.1 167 = .ok (.iinc 2 (1), 3) := by decide +kernel
theorem d_XModel_run_170 : decode Y_XModel_run.2.1 170 = .ok (.goto (-57), 3) := by decide +kernel
theorem d_XModel_run_173 : decode Y_XModel_run.2.1 173 = .ok (.iconst 0, 1) := by decide +kernel
theorem d_XModel_run_174 : decode Y_XModel_run.2.1 174 = .ok (.istore_n 2, 1) := by decide +kernel
theorem d_XModel_run_175 : decode Y_XModel_run.2.1 175 = .ok (.iload_n 2, 1) := by decide +kernel
theorem d_XModel_run_176 : decode Y_XModel_run.2.1 176 = .ok (.aload_n 0, 1) := by decide +kernel
theorem d_XModel_run_177 : decode Y_XModel_run.2.1 177 = .ok (.getfield 155, 3) := by decide +kernel
theorem d_XModel_run_180 : decode Y_XModel_run.2.1 180 = .ok (.if_icmp .ge (19), 3) := by decide +kernel
theorem d_XModel_run_183 : decode Y_XModel_run.2.1 183 = .ok (.aload_n 0, 1) := by decide +kernel
theorem d_XModel_run_184 : decode Y_XModel_run.2.1 184 = .ok (.aload_n 0, 1) := by decide +kernel
theorem d_XModel_run_185 : decode Y_XModel_run.2.1 185 = .ok (.getfield 48, 3) := by decide +kernel
theorem d_XModel_run_188 : decode Y_XModel_run.2.1 188 = .ok (.iload_n 2, 1) := by decide +kernel
theorem d_XModel_run_189 : decode Y_XModel_run.2.1 189 = .ok (.iaload, 1) := by decide +kernel
theorem d_XModel_run_190 : decode Y_XModel_run.2.1 190 = .ok (.invokevirtual 143, 3) := by decide +kernel
theorem d_XModel_run_193 : decode Y_XModel_run.2.1 193 = .ok (.iinc 2 (1), 3) := by decide +kernel
theorem d_XModel_run_196 : decode Y_XModel_run.2.1 196 = .ok (.goto (-21), 3) := by decide +kernel
theorem d_XModel_run_199 : decode Y_XModel_run.2.1 199 = .ok (.aload_n 0, 1) := by decide +kernel
theorem d_XModel_run_200 : decode Y_XModel_run.2.1 200 = .ok (.iconst (-1), 1) := by decide +kernel
theorem d_XModel_run_201 : decode Y_XModel_run.2.1 201 = .ok (.invokevirtual 220, 3) := by decide +kernel
theorem d_XModel_run_204 : decode Y_XModel_run.2.1 204 = .ok (.istore_n 2, 1) := by decide +kernel
theorem d_XModel_run_205 : decode Y_XModel_run.2.1 205 = .ok (.aload_n 0, 1) := by decide +kernel
theorem d_XModel_run_206 : decode Y_XModel_run.2.1 206 = .ok (.iconst 1, 1) := by decide +kernel
theorem d_XModel_run_207 : decode Y_XModel_run.2.1 207 = .ok (.putfield 192, 3) := by decide +kernel
theorem d_XModel_run_210 : decode Y_XModel_run.2.1 210 = .ok (.iload_n 2, 1) := by decide +kernel
theorem d_XModel_run_211 : decode Y_XModel_run.2.1 211 = .ok (.ireturn, 1) := by decide +kernel
def F_XModel_run_167 (n : Nat) (rec113 : Nat → Int32 → PM → qO) (l0 : Nat) (l2 : Int32) (M : PM) : qO :=
  bI (l2 + (1 : Int32)) (fun v1 =>
  rec113 l0 v1 M)
set_option maxHeartbeats 4000000 in
set_option maxRecDepth 100000 in
theorem E_XModel_run_167 {g : qG} {X : qX} {Z : qZ} (hn : 7 ≤ zn Z) (hl : 165 ≤ zl Z) {n : Nat} {rec113 : Nat → Int32 → PM → qO} (hrec113 : ∀ (l0 : Nat) (l2 : Int32) (M : PM), rec113 l0 l2 M = some (zr Z, zf Z) → EW Y_XModel_run g X Z 113 [(0, .ref l0), (2, .int l2)] [] M) {l0 : Nat} {l2 : Int32} {M : PM} (h : F_XModel_run_167 n rec113 l0 l2 M = some (zr Z, zf Z)) : EW Y_XModel_run g X Z 167 [(0, .ref l0), (2, .int l2)] [] M := by
  unfold F_XModel_run_167 at h
  obtain ⟨v1, ev1, h⟩ := bI_inv h
  refine ew_iinc (L' := [(0, .ref l0), (2, .int v1)]) v1 [1, 0] d_XModel_run_167 rfl (by rw [ev1]; rfl) (by decide) rfl ?_
  refine ew_goto 113 d_XModel_run_170 (by decide) ?_
  exact hrec113 l0 v1 M h
def F_XModel_run_175 (n : Nat) : Nat → Nat → Int32 → PM → qO
  | 0, _, _, _ => none
  | f + 1, l0, l2, M =>
    gI 0 M l0 10 (fun v1 =>
    if v1 ≤ l2 then
      kO 0 M l0 (
      cI (F_XModel_ask n l0 (-1 : Int32) M) (fun v4 M3 =>
      pF 0 M3 l0 33 (.int (1 : Int32)) (fun M5 =>
      some (.inl (some (.int v4)), M5))))
    else
      gR 0 M l0 16 (fun v6 =>
      lI M v6 l2 (fun v7 =>
      kO 0 M l0 (
      cV (F_XModel_mark n l0 v7 M) (fun M8 =>
      bI (l2 + (1 : Int32)) (fun v9 =>
      (F_XModel_run_175 n f) l0 v9 M8))))))
set_option maxHeartbeats 4000000 in
set_option maxRecDepth 100000 in
theorem E_XModel_run_175 {g : qG} {X : qX} {Z : qZ} (hn : 7 ≤ zn Z) (hl : 165 ≤ zl Z) {n : Nat} : ∀ (f : Nat) (l0 : Nat) (l2 : Int32) (M : PM), F_XModel_run_175 n f l0 l2 M = some (zr Z, zf Z) → EW Y_XModel_run g X Z 175 [(0, .ref l0), (2, .int l2)] [] M := by
  intro f
  induction f with
  | zero => intro l0 l2 M h; rw [F_XModel_run_175] at h; cases h
  | succ f ih =>
    intro l0 l2 M h
    rw [F_XModel_run_175] at h
    refine ew_iload_n 2 d_XModel_run_175 rfl rfl ?_
    refine ew_aload_n 0 d_XModel_run_176 rfl rfl ?_
    obtain ⟨v1, av1, bv1, h⟩ := gI_inv h
    refine ew_gI 0 10 d_XModel_run_177 fl_XModel_155 av1 bv1 ?_
    refine ew_icmp_ge 199 d_XModel_run_180 (by decide) (fun c2 => ?_) (fun c2 => ?_)
    · rw [if_pos c2] at h
      refine ew_aload_n 0 d_XModel_run_199 rfl rfl ?_
      refine ew_iconst (-1) d_XModel_run_200 (by decide) ?_
      obtain ⟨kM3, h⟩ := kO_inv h
      obtain ⟨v4, M3, hM3, h⟩ := cI_inv h
      refine ew_callV 0 [.int (-1 : Int32)] d_XModel_run_201 cv_XModel_220 (T_XModel_ask hM3) kM3 (Nat.le_trans (Nat.le_of_ble_eq_true rfl) hn) (Nat.le_trans (Nat.le_of_ble_eq_true rfl) hl) (Nat.le_of_ble_eq_true rfl) rfl rfl ?_
      refine ew_istore_n (L' := [(0, .ref l0), (2, .int v4)]) 2 [1, 0] d_XModel_run_204 rfl (by decide) rfl ?_
      refine ew_aload_n 0 d_XModel_run_205 rfl rfl ?_
      refine ew_iconst (1) d_XModel_run_206 (by decide) ?_
      obtain ⟨M5, aM5, eM5, h⟩ := pF_inv h
      refine ew_pF 0 33 d_XModel_run_207 fl_XModel_192 aM5 eM5 (fun ad => ⟨rfl, rfl⟩) ?_
      refine ew_iload_n 2 d_XModel_run_210 rfl rfl ?_
      obtain ⟨hz, hm⟩ := Prod.mk.inj (Option.some.inj h)
      exact ew_ireturn d_XModel_run_211 rfl hz.symm hm.symm
    · rw [if_neg c2] at h
      refine ew_aload_n 0 d_XModel_run_183 rfl rfl ?_
      refine ew_aload_n 0 d_XModel_run_184 rfl rfl ?_
      obtain ⟨v6, av6, bv6, h⟩ := gR_inv h
      refine ew_gR 0 16 d_XModel_run_185 fl_XModel_48 av6 bv6 ?_
      refine ew_iload_n 2 d_XModel_run_188 rfl rfl ?_
      obtain ⟨v7, av7, bv7, cv7, ev7, h⟩ := lI_inv h
      refine ew_lI d_XModel_run_189 av7 bv7 cv7 ev7 ?_
      obtain ⟨kM8, h⟩ := kO_inv h
      obtain ⟨M8, hM8, h⟩ := cV_inv h
      refine ew_callV 0 [.int v7] d_XModel_run_190 cv_XModel_143 (T_XModel_mark hM8) kM8 (Nat.le_trans (Nat.le_of_ble_eq_true rfl) hn) (Nat.le_trans (Nat.le_of_ble_eq_true rfl) hl) (Nat.le_of_ble_eq_true rfl) rfl rfl ?_
      obtain ⟨v9, ev9, h⟩ := bI_inv h
      refine ew_iinc (L' := [(0, .ref l0), (2, .int v9)]) v9 [1, 0] d_XModel_run_193 rfl (by rw [ev9]; rfl) (by decide) rfl ?_
      refine ew_goto 175 d_XModel_run_196 (by decide) ?_
      exact ih l0 v9 M8 h
def F_XModel_run_113 (n : Nat) : Nat → Nat → Int32 → PM → qO
  | 0, _, _, _ => none
  | f + 1, l0, l2, M =>
    gI 0 M l0 9 (fun v1 =>
    if v1 ≤ l2 then
      F_XModel_run_175 n n l0 (0 : Int32) M
    else
      gR 0 M l0 15 (fun v3 =>
      lZ M v3 l2 (fun v4 =>
      if v4 = (0 : Int32) then
        F_XModel_run_167 n (F_XModel_run_113 n f) l0 l2 M
      else
        gR 0 M l0 20 (fun v6 =>
        gR 0 M l0 17 (fun v7 =>
        gR 0 M l0 14 (fun v8 =>
        lI M v8 l2 (fun v9 =>
        lI M v7 v9 (fun v10 =>
        wI M v6 l2 v10 (fun M11 =>
        gR 0 M11 l0 19 (fun v12 =>
        lI M11 v12 l2 (fun v13 =>
        kO 0 M11 l0 (
        cV (F_XModel_mark n l0 v13 M11) (fun M14 =>
        gR 0 M14 l0 20 (fun v15 =>
        lI M14 v15 l2 (fun v16 =>
        kO 0 M14 l0 (
        cV (F_XModel_mark n l0 v16 M14) (fun M17 =>
        F_XModel_run_167 n (F_XModel_run_113 n f) l0 l2 M17)))))))))))))))))
set_option maxHeartbeats 4000000 in
set_option maxRecDepth 100000 in
theorem E_XModel_run_113 {g : qG} {X : qX} {Z : qZ} (hn : 7 ≤ zn Z) (hl : 165 ≤ zl Z) {n : Nat} : ∀ (f : Nat) (l0 : Nat) (l2 : Int32) (M : PM), F_XModel_run_113 n f l0 l2 M = some (zr Z, zf Z) → EW Y_XModel_run g X Z 113 [(0, .ref l0), (2, .int l2)] [] M := by
  intro f
  induction f with
  | zero => intro l0 l2 M h; rw [F_XModel_run_113] at h; cases h
  | succ f ih =>
    intro l0 l2 M h
    rw [F_XModel_run_113] at h
    refine ew_iload_n 2 d_XModel_run_113 rfl rfl ?_
    refine ew_aload_n 0 d_XModel_run_114 rfl rfl ?_
    obtain ⟨v1, av1, bv1, h⟩ := gI_inv h
    refine ew_gI 0 9 d_XModel_run_115 fl_XModel_119 av1 bv1 ?_
    refine ew_icmp_ge 173 d_XModel_run_118 (by decide) (fun c2 => ?_) (fun c2 => ?_)
    · rw [if_pos c2] at h
      refine ew_iconst (0) d_XModel_run_173 (by decide) ?_
      refine ew_istore_n (L' := [(0, .ref l0), (2, .int (0 : Int32))]) 2 [1, 0] d_XModel_run_174 rfl (by decide) rfl ?_
      exact E_XModel_run_175 hn hl n l0 (0 : Int32) M h
    · rw [if_neg c2] at h
      refine ew_aload_n 0 d_XModel_run_121 rfl rfl ?_
      obtain ⟨v3, av3, bv3, h⟩ := gR_inv h
      refine ew_gR 0 15 d_XModel_run_122 fl_XModel_45 av3 bv3 ?_
      refine ew_iload_n 2 d_XModel_run_125 rfl rfl ?_
      obtain ⟨v4, av4, bv4, cv4, ev4, h⟩ := lZ_inv h
      refine ew_lZ d_XModel_run_126 av4 bv4 cv4 ev4 ?_
      refine ew_if_eq 167 d_XModel_run_127 (by decide) (fun c5 => ?_) (fun c5 => ?_)
      · rw [if_pos c5] at h
        exact E_XModel_run_167 hn hl ih h
      · rw [if_neg c5] at h
        refine ew_aload_n 0 d_XModel_run_130 rfl rfl ?_
        obtain ⟨v6, av6, bv6, h⟩ := gR_inv h
        refine ew_gR 0 20 d_XModel_run_131 fl_XModel_60 av6 bv6 ?_
        refine ew_iload_n 2 d_XModel_run_134 rfl rfl ?_
        refine ew_aload_n 0 d_XModel_run_135 rfl rfl ?_
        obtain ⟨v7, av7, bv7, h⟩ := gR_inv h
        refine ew_gR 0 17 d_XModel_run_136 fl_XModel_51 av7 bv7 ?_
        refine ew_aload_n 0 d_XModel_run_139 rfl rfl ?_
        obtain ⟨v8, av8, bv8, h⟩ := gR_inv h
        refine ew_gR 0 14 d_XModel_run_140 fl_XModel_42 av8 bv8 ?_
        refine ew_iload_n 2 d_XModel_run_143 rfl rfl ?_
        obtain ⟨v9, av9, bv9, cv9, ev9, h⟩ := lI_inv h
        refine ew_lI d_XModel_run_144 av9 bv9 cv9 ev9 ?_
        obtain ⟨v10, av10, bv10, cv10, ev10, h⟩ := lI_inv h
        refine ew_lI d_XModel_run_145 av10 bv10 cv10 ev10 ?_
        obtain ⟨M11, aM11, bM11, cM11, eM11, h⟩ := wI_inv h
        refine ew_wI d_XModel_run_146 aM11 bM11 cM11 eM11 ?_
        refine ew_aload_n 0 d_XModel_run_147 rfl rfl ?_
        refine ew_aload_n 0 d_XModel_run_148 rfl rfl ?_
        obtain ⟨v12, av12, bv12, h⟩ := gR_inv h
        refine ew_gR 0 19 d_XModel_run_149 fl_XModel_57 av12 bv12 ?_
        refine ew_iload_n 2 d_XModel_run_152 rfl rfl ?_
        obtain ⟨v13, av13, bv13, cv13, ev13, h⟩ := lI_inv h
        refine ew_lI d_XModel_run_153 av13 bv13 cv13 ev13 ?_
        obtain ⟨kM14, h⟩ := kO_inv h
        obtain ⟨M14, hM14, h⟩ := cV_inv h
        refine ew_callV 0 [.int v13] d_XModel_run_154 cv_XModel_143 (T_XModel_mark hM14) kM14 (Nat.le_trans (Nat.le_of_ble_eq_true rfl) hn) (Nat.le_trans (Nat.le_of_ble_eq_true rfl) hl) (Nat.le_of_ble_eq_true rfl) rfl rfl ?_
        refine ew_aload_n 0 d_XModel_run_157 rfl rfl ?_
        refine ew_aload_n 0 d_XModel_run_158 rfl rfl ?_
        obtain ⟨v15, av15, bv15, h⟩ := gR_inv h
        refine ew_gR 0 20 d_XModel_run_159 fl_XModel_60 av15 bv15 ?_
        refine ew_iload_n 2 d_XModel_run_162 rfl rfl ?_
        obtain ⟨v16, av16, bv16, cv16, ev16, h⟩ := lI_inv h
        refine ew_lI d_XModel_run_163 av16 bv16 cv16 ev16 ?_
        obtain ⟨kM17, h⟩ := kO_inv h
        obtain ⟨M17, hM17, h⟩ := cV_inv h
        refine ew_callV 0 [.int v16] d_XModel_run_164 cv_XModel_143 (T_XModel_mark hM17) kM17 (Nat.le_trans (Nat.le_of_ble_eq_true rfl) hn) (Nat.le_trans (Nat.le_of_ble_eq_true rfl) hl) (Nat.le_of_ble_eq_true rfl) rfl rfl ?_
        exact E_XModel_run_167 hn hl ih h
def F_XModel_run_86 (n : Nat) : Nat → Nat → Int32 → Int32 → PM → qO
  | 0, _, _, _, _ => none
  | f + 1, l0, l1, l2, M =>
    if l1 ≤ l2 then
      kO 0 M l0 (
      cV (F_XModel_putIn n l0 (2 : Int32) M) (fun M2 =>
      kO 0 M2 l0 (
      cV (F_XModel_unmark n l0 M2) (fun M3 =>
      F_XModel_run_113 n n l0 (0 : Int32) M3))))
    else
      kO 0 M l0 (
      cV (F_XModel_step n l0 (0 : Int32) M) (fun M4 =>
      bI (l2 + (1 : Int32)) (fun v5 =>
      (F_XModel_run_86 n f) l0 l1 v5 M4)))
set_option maxHeartbeats 4000000 in
set_option maxRecDepth 100000 in
theorem E_XModel_run_86 {g : qG} {X : qX} {Z : qZ} (hn : 7 ≤ zn Z) (hl : 165 ≤ zl Z) {n : Nat} : ∀ (f : Nat) (l0 : Nat) (l1 : Int32) (l2 : Int32) (M : PM), F_XModel_run_86 n f l0 l1 l2 M = some (zr Z, zf Z) → EW Y_XModel_run g X Z 86 [(0, .ref l0), (1, .int l1), (2, .int l2)] [] M := by
  intro f
  induction f with
  | zero => intro l0 l1 l2 M h; rw [F_XModel_run_86] at h; cases h
  | succ f ih =>
    intro l0 l1 l2 M h
    rw [F_XModel_run_86] at h
    refine ew_iload_n 2 d_XModel_run_86 rfl rfl ?_
    refine ew_iload_n 1 d_XModel_run_87 rfl rfl ?_
    refine ew_icmp_ge 102 d_XModel_run_88 (by decide) (fun c1 => ?_) (fun c1 => ?_)
    · rw [if_pos c1] at h
      refine ew_aload_n 0 d_XModel_run_102 rfl rfl ?_
      refine ew_iconst (2) d_XModel_run_103 (by decide) ?_
      obtain ⟨kM2, h⟩ := kO_inv h
      obtain ⟨M2, hM2, h⟩ := cV_inv h
      refine ew_callV 0 [.int (2 : Int32)] d_XModel_run_104 cv_XModel_161 (T_XModel_putIn hM2) kM2 (Nat.le_trans (Nat.le_of_ble_eq_true rfl) hn) (Nat.le_trans (Nat.le_of_ble_eq_true rfl) hl) (Nat.le_of_ble_eq_true rfl) rfl rfl ?_
      refine ew_aload_n 0 d_XModel_run_107 rfl rfl ?_
      obtain ⟨kM3, h⟩ := kO_inv h
      obtain ⟨M3, hM3, h⟩ := cV_inv h
      refine ew_callV 0 [] d_XModel_run_108 cv_XModel_146 (T_XModel_unmark hM3) kM3 (Nat.le_trans (Nat.le_of_ble_eq_true rfl) hn) (Nat.le_trans (Nat.le_of_ble_eq_true rfl) hl) (Nat.le_of_ble_eq_true rfl) rfl rfl ?_
      refine ew_iconst (0) d_XModel_run_111 (by decide) ?_
      refine ew_istore_n (L' := [(0, .ref l0), (1, .int l1), (2, .int (0 : Int32))]) 2 [1, 2, 0] d_XModel_run_112 rfl (by decide) rfl ?_
      exact ew_pick (L' := [(0, .ref l0), (2, .int (0 : Int32))]) [0, 2] rfl (E_XModel_run_113 hn hl n l0 (0 : Int32) M3 h)
    · rw [if_neg c1] at h
      refine ew_aload_n 0 d_XModel_run_91 rfl rfl ?_
      refine ew_iconst (0) d_XModel_run_92 (by decide) ?_
      obtain ⟨kM4, h⟩ := kO_inv h
      obtain ⟨M4, hM4, h⟩ := cV_inv h
      refine ew_callV 0 [.int (0 : Int32)] d_XModel_run_93 cv_XModel_217 (T_XModel_step hM4) kM4 (Nat.le_trans (Nat.le_of_ble_eq_true rfl) hn) (Nat.le_trans (Nat.le_of_ble_eq_true rfl) hl) (Nat.le_of_ble_eq_true rfl) rfl rfl ?_
      obtain ⟨v5, ev5, h⟩ := bI_inv h
      refine ew_iinc (L' := [(0, .ref l0), (1, .int l1), (2, .int v5)]) v5 [1, 2, 0] d_XModel_run_96 rfl (by rw [ev5]; rfl) (by decide) rfl ?_
      refine ew_goto 86 d_XModel_run_99 (by decide) ?_
      exact ih l0 l1 v5 M4 h
def F_XModel_run_54 (n : Nat) : Nat → Nat → Int32 → Int32 → PM → qO
  | 0, _, _, _, _ => none
  | f + 1, l0, l1, l2, M =>
    gI 0 M l0 9 (fun v1 =>
    if v1 ≤ l2 then
      kO 0 M l0 (
      cV (F_XModel_beginState n l0 M) (fun M3 =>
      F_XModel_run_86 n n l0 l1 (0 : Int32) M3))
    else
      gR 0 M l0 19 (fun v4 =>
      gR 0 M l0 18 (fun v5 =>
      lI M v5 l2 (fun v6 =>
      wI M v4 l2 v6 (fun M7 =>
      bI (l2 + (1 : Int32)) (fun v8 =>
      (F_XModel_run_54 n f) l0 l1 v8 M7))))))
set_option maxHeartbeats 4000000 in
set_option maxRecDepth 100000 in
theorem E_XModel_run_54 {g : qG} {X : qX} {Z : qZ} (hn : 7 ≤ zn Z) (hl : 165 ≤ zl Z) {n : Nat} : ∀ (f : Nat) (l0 : Nat) (l1 : Int32) (l2 : Int32) (M : PM), F_XModel_run_54 n f l0 l1 l2 M = some (zr Z, zf Z) → EW Y_XModel_run g X Z 54 [(0, .ref l0), (1, .int l1), (2, .int l2)] [] M := by
  intro f
  induction f with
  | zero => intro l0 l1 l2 M h; rw [F_XModel_run_54] at h; cases h
  | succ f ih =>
    intro l0 l1 l2 M h
    rw [F_XModel_run_54] at h
    refine ew_iload_n 2 d_XModel_run_54 rfl rfl ?_
    refine ew_aload_n 0 d_XModel_run_55 rfl rfl ?_
    obtain ⟨v1, av1, bv1, h⟩ := gI_inv h
    refine ew_gI 0 9 d_XModel_run_56 fl_XModel_119 av1 bv1 ?_
    refine ew_icmp_ge 80 d_XModel_run_59 (by decide) (fun c2 => ?_) (fun c2 => ?_)
    · rw [if_pos c2] at h
      refine ew_aload_n 0 d_XModel_run_80 rfl rfl ?_
      obtain ⟨kM3, h⟩ := kO_inv h
      obtain ⟨M3, hM3, h⟩ := cV_inv h
      refine ew_callV 0 [] d_XModel_run_81 cv_XModel_214 (T_XModel_beginState hM3) kM3 (Nat.le_trans (Nat.le_of_ble_eq_true rfl) hn) (Nat.le_trans (Nat.le_of_ble_eq_true rfl) hl) (Nat.le_of_ble_eq_true rfl) rfl rfl ?_
      refine ew_iconst (0) d_XModel_run_84 (by decide) ?_
      refine ew_istore_n (L' := [(0, .ref l0), (1, .int l1), (2, .int (0 : Int32))]) 2 [1, 2, 0] d_XModel_run_85 rfl (by decide) rfl ?_
      exact E_XModel_run_86 hn hl n l0 l1 (0 : Int32) M3 h
    · rw [if_neg c2] at h
      refine ew_aload_n 0 d_XModel_run_62 rfl rfl ?_
      obtain ⟨v4, av4, bv4, h⟩ := gR_inv h
      refine ew_gR 0 19 d_XModel_run_63 fl_XModel_57 av4 bv4 ?_
      refine ew_iload_n 2 d_XModel_run_66 rfl rfl ?_
      refine ew_aload_n 0 d_XModel_run_67 rfl rfl ?_
      obtain ⟨v5, av5, bv5, h⟩ := gR_inv h
      refine ew_gR 0 18 d_XModel_run_68 fl_XModel_54 av5 bv5 ?_
      refine ew_iload_n 2 d_XModel_run_71 rfl rfl ?_
      obtain ⟨v6, av6, bv6, cv6, ev6, h⟩ := lI_inv h
      refine ew_lI d_XModel_run_72 av6 bv6 cv6 ev6 ?_
      obtain ⟨M7, aM7, bM7, cM7, eM7, h⟩ := wI_inv h
      refine ew_wI d_XModel_run_73 aM7 bM7 cM7 eM7 ?_
      obtain ⟨v8, ev8, h⟩ := bI_inv h
      refine ew_iinc (L' := [(0, .ref l0), (1, .int l1), (2, .int v8)]) v8 [1, 2, 0] d_XModel_run_74 rfl (by rw [ev8]; rfl) (by decide) rfl ?_
      refine ew_goto 54 d_XModel_run_77 (by decide) ?_
      exact ih l0 l1 v8 M7 h
def F_XModel_run_36 (n : Nat) : Nat → Nat → Int32 → Int32 → PM → qO
  | 0, _, _, _, _ => none
  | f + 1, l0, l1, l2, M =>
    if l1 ≤ l2 then
      F_XModel_run_54 n n l0 l1 (0 : Int32) M
    else
      kO 0 M l0 (
      cV (F_XModel_step n l0 (0 : Int32) M) (fun M2 =>
      bI (l2 + (1 : Int32)) (fun v3 =>
      (F_XModel_run_36 n f) l0 l1 v3 M2)))
set_option maxHeartbeats 4000000 in
set_option maxRecDepth 100000 in
theorem E_XModel_run_36 {g : qG} {X : qX} {Z : qZ} (hn : 7 ≤ zn Z) (hl : 165 ≤ zl Z) {n : Nat} : ∀ (f : Nat) (l0 : Nat) (l1 : Int32) (l2 : Int32) (M : PM), F_XModel_run_36 n f l0 l1 l2 M = some (zr Z, zf Z) → EW Y_XModel_run g X Z 36 [(0, .ref l0), (1, .int l1), (2, .int l2)] [] M := by
  intro f
  induction f with
  | zero => intro l0 l1 l2 M h; rw [F_XModel_run_36] at h; cases h
  | succ f ih =>
    intro l0 l1 l2 M h
    rw [F_XModel_run_36] at h
    refine ew_iload_n 2 d_XModel_run_36 rfl rfl ?_
    refine ew_iload_n 1 d_XModel_run_37 rfl rfl ?_
    refine ew_icmp_ge 52 d_XModel_run_38 (by decide) (fun c1 => ?_) (fun c1 => ?_)
    · rw [if_pos c1] at h
      refine ew_iconst (0) d_XModel_run_52 (by decide) ?_
      refine ew_istore_n (L' := [(0, .ref l0), (1, .int l1), (2, .int (0 : Int32))]) 2 [1, 2, 0] d_XModel_run_53 rfl (by decide) rfl ?_
      exact E_XModel_run_54 hn hl n l0 l1 (0 : Int32) M h
    · rw [if_neg c1] at h
      refine ew_aload_n 0 d_XModel_run_41 rfl rfl ?_
      refine ew_iconst (0) d_XModel_run_42 (by decide) ?_
      obtain ⟨kM2, h⟩ := kO_inv h
      obtain ⟨M2, hM2, h⟩ := cV_inv h
      refine ew_callV 0 [.int (0 : Int32)] d_XModel_run_43 cv_XModel_217 (T_XModel_step hM2) kM2 (Nat.le_trans (Nat.le_of_ble_eq_true rfl) hn) (Nat.le_trans (Nat.le_of_ble_eq_true rfl) hl) (Nat.le_of_ble_eq_true rfl) rfl rfl ?_
      obtain ⟨v3, ev3, h⟩ := bI_inv h
      refine ew_iinc (L' := [(0, .ref l0), (1, .int l1), (2, .int v3)]) v3 [1, 2, 0] d_XModel_run_46 rfl (by rw [ev3]; rfl) (by decide) rfl ?_
      refine ew_goto 36 d_XModel_run_49 (by decide) ?_
      exact ih l0 l1 v3 M2 h
def F_XModel_run (n : Nat) (l0 : Nat) (l1 : Int32) (M : PM) : qO :=
  pF 0 M l0 0 (.int (0 : Int32)) (fun M1 =>
  cI (F_XModel_within n l1 (0 : Int32) (8 : Int32) M1) (fun v3 M2 =>
  if v3 = (0 : Int32) then
    kO 0 M2 l0 (
    cI (F_XModel_fail n l0 (1 : Int32) M2) (fun v9 M8 =>
    some (.inl (some (.int v9)), M8)))
  else
    kO 0 M2 l0 (
    cV (F_XModel_begin n l0 M2) (fun M5 =>
    kO 0 M5 l0 (
    cV (F_XModel_beginState n l0 M5) (fun M6 =>
    kO 0 M6 l0 (
    cV (F_XModel_step n l0 (1 : Int32) M6) (fun M7 =>
    F_XModel_run_36 n n l0 l1 (0 : Int32) M7))))))))
set_option maxHeartbeats 4000000 in
set_option maxRecDepth 100000 in
theorem E_XModel_run {g : qG} {X : qX} {Z : qZ} (hn : 7 ≤ zn Z) (hl : 165 ≤ zl Z) {n : Nat} {l0 : Nat} {l1 : Int32} {M : PM} (h : F_XModel_run n l0 l1 M = some (zr Z, zf Z)) : EW Y_XModel_run g X Z 0 [(0, .ref l0), (1, .int l1)] [] M := by
  unfold F_XModel_run at h
  refine ew_aload_n 0 d_XModel_run_0 rfl rfl ?_
  refine ew_iconst (0) d_XModel_run_1 (by decide) ?_
  obtain ⟨M1, aM1, eM1, h⟩ := pF_inv h
  refine ew_pF 0 0 d_XModel_run_2 fl_XModel_87 aM1 eM1 (fun ad => ⟨rfl, rfl⟩) ?_
  refine ew_iload_n 1 d_XModel_run_5 rfl rfl ?_
  refine ew_iconst (0) d_XModel_run_6 (by decide) ?_
  refine ew_bipush (8) d_XModel_run_7 (by decide +kernel) ?_
  obtain ⟨v3, M2, hM2, h⟩ := cI_inv h
  refine ew_callS [.int l1, .int (0 : Int32), .int (8 : Int32)] d_XModel_run_9 cs_XModel_115 (T_XModel_within hM2) (Nat.le_trans (Nat.le_of_ble_eq_true rfl) hn) (Nat.le_trans (Nat.le_of_ble_eq_true rfl) hl) (Nat.le_of_ble_eq_true rfl) rfl rfl ?_
  refine ew_if_ne 21 d_XModel_run_12 (by decide) (fun c4 => ?_) (fun c4 => ?_)
  · rw [if_neg c4] at h
    refine ew_aload_n 0 d_XModel_run_21 rfl rfl ?_
    obtain ⟨kM5, h⟩ := kO_inv h
    obtain ⟨M5, hM5, h⟩ := cV_inv h
    refine ew_callV 0 [] d_XModel_run_22 cv_XModel_84 (T_XModel_begin hM5) kM5 (Nat.le_trans (Nat.le_of_ble_eq_true rfl) hn) (Nat.le_trans (Nat.le_of_ble_eq_true rfl) hl) (Nat.le_of_ble_eq_true rfl) rfl rfl ?_
    refine ew_aload_n 0 d_XModel_run_25 rfl rfl ?_
    obtain ⟨kM6, h⟩ := kO_inv h
    obtain ⟨M6, hM6, h⟩ := cV_inv h
    refine ew_callV 0 [] d_XModel_run_26 cv_XModel_214 (T_XModel_beginState hM6) kM6 (Nat.le_trans (Nat.le_of_ble_eq_true rfl) hn) (Nat.le_trans (Nat.le_of_ble_eq_true rfl) hl) (Nat.le_of_ble_eq_true rfl) rfl rfl ?_
    refine ew_aload_n 0 d_XModel_run_29 rfl rfl ?_
    refine ew_iconst (1) d_XModel_run_30 (by decide) ?_
    obtain ⟨kM7, h⟩ := kO_inv h
    obtain ⟨M7, hM7, h⟩ := cV_inv h
    refine ew_callV 0 [.int (1 : Int32)] d_XModel_run_31 cv_XModel_217 (T_XModel_step hM7) kM7 (Nat.le_trans (Nat.le_of_ble_eq_true rfl) hn) (Nat.le_trans (Nat.le_of_ble_eq_true rfl) hl) (Nat.le_of_ble_eq_true rfl) rfl rfl ?_
    refine ew_iconst (0) d_XModel_run_34 (by decide) ?_
    refine ew_istore_n (L' := [(0, .ref l0), (1, .int l1), (2, .int (0 : Int32))]) 2 [1, 2, 0] d_XModel_run_35 rfl (by decide) rfl ?_
    exact E_XModel_run_36 hn hl n l0 l1 (0 : Int32) M7 h
  · rw [if_pos c4] at h
    refine ew_aload_n 0 d_XModel_run_15 rfl rfl ?_
    refine ew_iconst (1) d_XModel_run_16 (by decide) ?_
    obtain ⟨kM8, h⟩ := kO_inv h
    obtain ⟨v9, M8, hM8, h⟩ := cI_inv h
    refine ew_callV 0 [.int (1 : Int32)] d_XModel_run_17 cv_XModel_111 (T_XModel_fail hM8) kM8 (Nat.le_trans (Nat.le_of_ble_eq_true rfl) hn) (Nat.le_trans (Nat.le_of_ble_eq_true rfl) hl) (Nat.le_of_ble_eq_true rfl) rfl rfl ?_
    obtain ⟨hz, hm⟩ := Prod.mk.inj (Option.some.inj h)
    exact ew_ireturn d_XModel_run_20 rfl hz.symm hm.symm
theorem T_XModel_run {n : Nat} {l0 : Nat} {l1 : Int32} {M Mf : PM} {res : qRs} (h : F_XModel_run n l0 l1 M = some (res, Mf)) : CT Y_XModel_run 7 165 [.ref l0, .int l1] M res Mf :=
  CT_of (by decide) (Nat.le_of_ble_eq_true rfl) (qHd_ne (by decide)) (fun g X ad0 => E_XModel_run (g := g) (X := X) (Z := (ad0, M, res, Mf, 7, 165)) (Nat.le_refl _) (Nat.le_refl _) h)
theorem d_XModel_kept_0 : decode Y_XModel_kept.2.1 0 = .ok (.aload_n 0, 1) := by decide +kernel
theorem d_XModel_kept_1 : decode Y_XModel_kept.2.1 1 = .ok (.iconst 0, 1) := by decide +kernel
theorem d_XModel_kept_2 : decode Y_XModel_kept.2.1 2 = .ok (.putfield 87, 3) := by decide +kernel
theorem d_XModel_kept_5 : decode Y_XModel_kept.2.1 5 = .ok (.iload_n 1, 1) := by decide +kernel
theorem d_XModel_kept_6 : decode Y_XModel_kept.2.1 6 = .ok (.iconst 0, 1) := by decide +kernel
theorem d_XModel_kept_7 : decode Y_XModel_kept.2.1 7 = .ok (.aload_n 0, 1) := by decide +kernel
theorem d_XModel_kept_8 : decode Y_XModel_kept.2.1 8 = .ok (.getfield 155, 3) := by decide +kernel
theorem d_XModel_kept_11 : decode Y_XModel_kept.2.1 11 = .ok (.iconst 1, 1) := by decide +kernel
theorem d_XModel_kept_12 : decode Y_XModel_kept.2.1 12 = .ok (.isub, 1) := by decide +kernel
theorem d_XModel_kept_13 : decode Y_XModel_kept.2.1 13 = .ok (.invokestatic 115, 3) := by decide +kernel
theorem d_XModel_kept_16 : decode Y_XModel_kept.2.1 16 = .ok (.ifCond .ne (9), 3) := by decide +kernel
theorem d_XModel_kept_19 : decode Y_XModel_kept.2.1 19 = .ok (.aload_n 0, 1) := by decide +kernel
theorem d_XModel_kept_20 : decode Y_XModel_kept.2.1 20 = .ok (.iconst 1, 1) := by decide +kernel
theorem d_XModel_kept_21 : decode Y_XModel_kept.2.1 21 = .ok (.invokevirtual 111, 3) := by decide +kernel
theorem d_XModel_kept_24 : decode Y_XModel_kept.2.1 24 = .ok (.ireturn, 1) := by decide +kernel
theorem d_XModel_kept_25 : decode Y_XModel_kept.2.1 25 = .ok (.aload_n 0, 1) := by decide +kernel
theorem d_XModel_kept_26 : decode Y_XModel_kept.2.1 26 = .ok (.invokevirtual 84, 3) := by decide +kernel
theorem d_XModel_kept_29 : decode Y_XModel_kept.2.1 29 = .ok (.aload_n 0, 1) := by decide +kernel
theorem d_XModel_kept_30 : decode Y_XModel_kept.2.1 30 = .ok (.invokevirtual 214, 3) := by decide +kernel
theorem d_XModel_kept_33 : decode Y_XModel_kept.2.1 33 = .ok (.aload_n 0, 1) := by decide +kernel
theorem d_XModel_kept_34 : decode Y_XModel_kept.2.1 34 = .ok (.iconst 2, 1) := by decide +kernel
theorem d_XModel_kept_35 : decode Y_XModel_kept.2.1 35 = .ok (.invokevirtual 217, 3) := by decide +kernel
theorem d_XModel_kept_38 : decode Y_XModel_kept.2.1 38 = .ok (.aload_n 0, 1) := by decide +kernel
theorem d_XModel_kept_39 : decode Y_XModel_kept.2.1 39 = .ok (.iconst 2, 1) := by decide +kernel
theorem d_XModel_kept_40 : decode Y_XModel_kept.2.1 40 = .ok (.invokevirtual 161, 3) := by decide +kernel
theorem d_XModel_kept_43 : decode Y_XModel_kept.2.1 43 = .ok (.aload_n 0, 1) := by decide +kernel
theorem d_XModel_kept_44 : decode Y_XModel_kept.2.1 44 = .ok (.getfield 51, 3) := by decide +kernel
theorem d_XModel_kept_47 : decode Y_XModel_kept.2.1 47 = .ok (.aload_n 0, 1) := by decide +kernel
theorem d_XModel_kept_48 : decode Y_XModel_kept.2.1 48 = .ok (.getfield 48, 3) := by decide +kernel
theorem d_XModel_kept_51 : decode Y_XModel_kept.2.1 51 = .ok (.iload_n 1, 1) := by decide +kernel
theorem d_XModel_kept_52 : decode Y_XModel_kept.2.1 52 = .ok (.iaload, 1) := by decide +kernel
theorem d_XModel_kept_53 : decode Y_XModel_kept.2.1 53 = .ok (.iaload, 1) := by decide +kernel
theorem d_XModel_kept_54 : decode Y_XModel_kept.2.1 54 = .ok (.istore_n 2, 1) := by decide +kernel
theorem d_XModel_kept_55 : decode Y_XModel_kept.2.1 55 = .ok (.aload_n 0, 1) := by decide +kernel
theorem d_XModel_kept_56 : decode Y_XModel_kept.2.1 56 = .ok (.invokevirtual 146, 3) := by decide +kernel
theorem d_XModel_kept_59 : decode Y_XModel_kept.2.1 59 = .ok (.aload_n 0, 1) := by decide +kernel
theorem d_XModel_kept_60 : decode Y_XModel_kept.2.1 60 = .ok (.iload_n 2, 1) := by decide +kernel
theorem d_XModel_kept_61 : decode Y_XModel_kept.2.1 61 = .ok (.invokevirtual 143, 3) := by decide +kernel
theorem d_XModel_kept_64 : decode Y_XModel_kept.2.1 64 = .ok (.iconst 0, 1) := by decide +kernel
theorem d_XModel_kept_65 : decode Y_XModel_kept.2.1 65 = .ok (.istore_n 3, 1) := by decide +kernel
theorem d_XModel_kept_66 : decode Y_XModel_kept.2.1 66 = .ok (.iload_n 3, 1) := by decide +kernel
theorem d_XModel_kept_67 : decode Y_XModel_kept.2.1 67 = .ok (.aload_n 0, 1) := by decide +kernel
theorem d_XModel_kept_68 : decode Y_XModel_kept.2.1 68 = .ok (.getfield 155, 3) := by decide +kernel
theorem d_XModel_kept_71 : decode Y_XModel_kept.2.1 71 = .ok (.if_icmp .ge (19), 3) := by decide +kernel
theorem d_XModel_kept_74 : decode Y_XModel_kept.2.1 74 = .ok (.aload_n 0, 1) := by decide +kernel
theorem d_XModel_kept_75 : decode Y_XModel_kept.2.1 75 = .ok (.aload_n 0, 1) := by decide +kernel
theorem d_XModel_kept_76 : decode Y_XModel_kept.2.1 76 = .ok (.getfield 48, 3) := by decide +kernel
theorem d_XModel_kept_79 : decode Y_XModel_kept.2.1 79 = .ok (.iload_n 3, 1) := by decide +kernel
theorem d_XModel_kept_80 : decode Y_XModel_kept.2.1 80 = .ok (.iaload, 1) := by decide +kernel
theorem d_XModel_kept_81 : decode Y_XModel_kept.2.1 81 = .ok (.invokevirtual 143, 3) := by decide +kernel
theorem d_XModel_kept_84 : decode Y_XModel_kept.2.1 84 = .ok (.iinc 3 (1), 3) := by decide +kernel
theorem d_XModel_kept_87 : decode Y_XModel_kept.2.1 87 = .ok (.goto (-21), 3) := by decide +kernel
theorem d_XModel_kept_90 : decode Y_XModel_kept.2.1 90 = .ok (.aload_n 0, 1) := by decide +kernel
theorem d_XModel_kept_91 : decode Y_XModel_kept.2.1 91 = .ok (.iload_n 2, 1) := by decide +kernel
theorem d_XModel_kept_92 : decode Y_XModel_kept.2.1 92 = .ok (.invokevirtual 220, 3) := by decide +kernel
theorem d_XModel_kept_95 : decode Y_XModel_kept.2.1 95 = .ok (.istore_n 3, 1) := by decide +kernel
theorem d_XModel_kept_96 : decode Y_XModel_kept.2.1 96 = .ok (.aload_n 0, 1) := by decide +kernel
theorem d_XModel_kept_97 : decode Y_XModel_kept.2.1 97 = .ok (.iconst (-1), 1) := by decide +kernel
theorem d_XModel_kept_98 : decode Y_XModel_kept.2.1 98 = .ok (.putfield 195, 3) := by decide +kernel
theorem d_XModel_kept_101 : decode Y_XModel_kept.2.1 101 = .ok (.iload_n 3, 1) := by decide +kernel
theorem d_XModel_kept_102 : decode Y_XModel_kept.2.1 102 = .ok (.ireturn, 1) := by decide +kernel
def F_XModel_kept_66 (n : Nat) : Nat → Nat → Int32 → Int32 → PM → qO
  | 0, _, _, _, _ => none
  | f + 1, l0, l2, l3, M =>
    gI 0 M l0 10 (fun v1 =>
    if v1 ≤ l3 then
      kO 0 M l0 (
      cI (F_XModel_ask n l0 l2 M) (fun v4 M3 =>
      pF 0 M3 l0 34 (.int (-1 : Int32)) (fun M5 =>
      some (.inl (some (.int v4)), M5))))
    else
      gR 0 M l0 16 (fun v6 =>
      lI M v6 l3 (fun v7 =>
      kO 0 M l0 (
      cV (F_XModel_mark n l0 v7 M) (fun M8 =>
      bI (l3 + (1 : Int32)) (fun v9 =>
      (F_XModel_kept_66 n f) l0 l2 v9 M8))))))
set_option maxHeartbeats 4000000 in
set_option maxRecDepth 100000 in
theorem E_XModel_kept_66 {g : qG} {X : qX} {Z : qZ} (hn : 7 ≤ zn Z) (hl : 165 ≤ zl Z) {n : Nat} : ∀ (f : Nat) (l0 : Nat) (l2 : Int32) (l3 : Int32) (M : PM), F_XModel_kept_66 n f l0 l2 l3 M = some (zr Z, zf Z) → EW Y_XModel_kept g X Z 66 [(0, .ref l0), (2, .int l2), (3, .int l3)] [] M := by
  intro f
  induction f with
  | zero => intro l0 l2 l3 M h; rw [F_XModel_kept_66] at h; cases h
  | succ f ih =>
    intro l0 l2 l3 M h
    rw [F_XModel_kept_66] at h
    refine ew_iload_n 3 d_XModel_kept_66 rfl rfl ?_
    refine ew_aload_n 0 d_XModel_kept_67 rfl rfl ?_
    obtain ⟨v1, av1, bv1, h⟩ := gI_inv h
    refine ew_gI 0 10 d_XModel_kept_68 fl_XModel_155 av1 bv1 ?_
    refine ew_icmp_ge 90 d_XModel_kept_71 (by decide) (fun c2 => ?_) (fun c2 => ?_)
    · rw [if_pos c2] at h
      refine ew_aload_n 0 d_XModel_kept_90 rfl rfl ?_
      refine ew_iload_n 2 d_XModel_kept_91 rfl rfl ?_
      obtain ⟨kM3, h⟩ := kO_inv h
      obtain ⟨v4, M3, hM3, h⟩ := cI_inv h
      refine ew_callV 0 [.int l2] d_XModel_kept_92 cv_XModel_220 (T_XModel_ask hM3) kM3 (Nat.le_trans (Nat.le_of_ble_eq_true rfl) hn) (Nat.le_trans (Nat.le_of_ble_eq_true rfl) hl) (Nat.le_of_ble_eq_true rfl) rfl rfl ?_
      refine ew_istore_n (L' := [(0, .ref l0), (2, .int l2), (3, .int v4)]) 3 [1, 2, 0] d_XModel_kept_95 rfl (by decide) rfl ?_
      refine ew_aload_n 0 d_XModel_kept_96 rfl rfl ?_
      refine ew_iconst (-1) d_XModel_kept_97 (by decide) ?_
      obtain ⟨M5, aM5, eM5, h⟩ := pF_inv h
      refine ew_pF 0 34 d_XModel_kept_98 fl_XModel_195 aM5 eM5 (fun ad => ⟨rfl, rfl⟩) ?_
      refine ew_iload_n 3 d_XModel_kept_101 rfl rfl ?_
      obtain ⟨hz, hm⟩ := Prod.mk.inj (Option.some.inj h)
      exact ew_ireturn d_XModel_kept_102 rfl hz.symm hm.symm
    · rw [if_neg c2] at h
      refine ew_aload_n 0 d_XModel_kept_74 rfl rfl ?_
      refine ew_aload_n 0 d_XModel_kept_75 rfl rfl ?_
      obtain ⟨v6, av6, bv6, h⟩ := gR_inv h
      refine ew_gR 0 16 d_XModel_kept_76 fl_XModel_48 av6 bv6 ?_
      refine ew_iload_n 3 d_XModel_kept_79 rfl rfl ?_
      obtain ⟨v7, av7, bv7, cv7, ev7, h⟩ := lI_inv h
      refine ew_lI d_XModel_kept_80 av7 bv7 cv7 ev7 ?_
      obtain ⟨kM8, h⟩ := kO_inv h
      obtain ⟨M8, hM8, h⟩ := cV_inv h
      refine ew_callV 0 [.int v7] d_XModel_kept_81 cv_XModel_143 (T_XModel_mark hM8) kM8 (Nat.le_trans (Nat.le_of_ble_eq_true rfl) hn) (Nat.le_trans (Nat.le_of_ble_eq_true rfl) hl) (Nat.le_of_ble_eq_true rfl) rfl rfl ?_
      obtain ⟨v9, ev9, h⟩ := bI_inv h
      refine ew_iinc (L' := [(0, .ref l0), (2, .int l2), (3, .int v9)]) v9 [1, 2, 0] d_XModel_kept_84 rfl (by rw [ev9]; rfl) (by decide) rfl ?_
      refine ew_goto 66 d_XModel_kept_87 (by decide) ?_
      exact ih l0 l2 v9 M8 h
def F_XModel_kept (n : Nat) (l0 : Nat) (l1 : Int32) (M : PM) : qO :=
  pF 0 M l0 0 (.int (0 : Int32)) (fun M1 =>
  gI 0 M1 l0 10 (fun v2 =>
  cI (F_XModel_within n l1 (0 : Int32) (v2 - (1 : Int32)) M1) (fun v4 M3 =>
  if v4 = (0 : Int32) then
    kO 0 M3 l0 (
    cI (F_XModel_fail n l0 (1 : Int32) M3) (fun v17 M16 =>
    some (.inl (some (.int v17)), M16)))
  else
    kO 0 M3 l0 (
    cV (F_XModel_begin n l0 M3) (fun M6 =>
    kO 0 M6 l0 (
    cV (F_XModel_beginState n l0 M6) (fun M7 =>
    kO 0 M7 l0 (
    cV (F_XModel_step n l0 (2 : Int32) M7) (fun M8 =>
    kO 0 M8 l0 (
    cV (F_XModel_putIn n l0 (2 : Int32) M8) (fun M9 =>
    gR 0 M9 l0 17 (fun v10 =>
    gR 0 M9 l0 16 (fun v11 =>
    lI M9 v11 l1 (fun v12 =>
    lI M9 v10 v12 (fun v13 =>
    kO 0 M9 l0 (
    cV (F_XModel_unmark n l0 M9) (fun M14 =>
    kO 0 M14 l0 (
    cV (F_XModel_mark n l0 v13 M14) (fun M15 =>
    F_XModel_kept_66 n n l0 v13 (0 : Int32) M15)))))))))))))))))))
set_option maxHeartbeats 4000000 in
set_option maxRecDepth 100000 in
theorem E_XModel_kept {g : qG} {X : qX} {Z : qZ} (hn : 7 ≤ zn Z) (hl : 165 ≤ zl Z) {n : Nat} {l0 : Nat} {l1 : Int32} {M : PM} (h : F_XModel_kept n l0 l1 M = some (zr Z, zf Z)) : EW Y_XModel_kept g X Z 0 [(0, .ref l0), (1, .int l1)] [] M := by
  unfold F_XModel_kept at h
  refine ew_aload_n 0 d_XModel_kept_0 rfl rfl ?_
  refine ew_iconst (0) d_XModel_kept_1 (by decide) ?_
  obtain ⟨M1, aM1, eM1, h⟩ := pF_inv h
  refine ew_pF 0 0 d_XModel_kept_2 fl_XModel_87 aM1 eM1 (fun ad => ⟨rfl, rfl⟩) ?_
  refine ew_iload_n 1 d_XModel_kept_5 rfl rfl ?_
  refine ew_iconst (0) d_XModel_kept_6 (by decide) ?_
  refine ew_aload_n 0 d_XModel_kept_7 rfl rfl ?_
  obtain ⟨v2, av2, bv2, h⟩ := gI_inv h
  refine ew_gI 0 10 d_XModel_kept_8 fl_XModel_155 av2 bv2 ?_
  refine ew_iconst (1) d_XModel_kept_11 (by decide) ?_
  refine ew_isub d_XModel_kept_12 ?_
  obtain ⟨v4, M3, hM3, h⟩ := cI_inv h
  refine ew_callS [.int l1, .int (0 : Int32), .int (v2 - (1 : Int32))] d_XModel_kept_13 cs_XModel_115 (T_XModel_within hM3) (Nat.le_trans (Nat.le_of_ble_eq_true rfl) hn) (Nat.le_trans (Nat.le_of_ble_eq_true rfl) hl) (Nat.le_of_ble_eq_true rfl) rfl rfl ?_
  refine ew_if_ne 25 d_XModel_kept_16 (by decide) (fun c5 => ?_) (fun c5 => ?_)
  · rw [if_neg c5] at h
    refine ew_aload_n 0 d_XModel_kept_25 rfl rfl ?_
    obtain ⟨kM6, h⟩ := kO_inv h
    obtain ⟨M6, hM6, h⟩ := cV_inv h
    refine ew_callV 0 [] d_XModel_kept_26 cv_XModel_84 (T_XModel_begin hM6) kM6 (Nat.le_trans (Nat.le_of_ble_eq_true rfl) hn) (Nat.le_trans (Nat.le_of_ble_eq_true rfl) hl) (Nat.le_of_ble_eq_true rfl) rfl rfl ?_
    refine ew_aload_n 0 d_XModel_kept_29 rfl rfl ?_
    obtain ⟨kM7, h⟩ := kO_inv h
    obtain ⟨M7, hM7, h⟩ := cV_inv h
    refine ew_callV 0 [] d_XModel_kept_30 cv_XModel_214 (T_XModel_beginState hM7) kM7 (Nat.le_trans (Nat.le_of_ble_eq_true rfl) hn) (Nat.le_trans (Nat.le_of_ble_eq_true rfl) hl) (Nat.le_of_ble_eq_true rfl) rfl rfl ?_
    refine ew_aload_n 0 d_XModel_kept_33 rfl rfl ?_
    refine ew_iconst (2) d_XModel_kept_34 (by decide) ?_
    obtain ⟨kM8, h⟩ := kO_inv h
    obtain ⟨M8, hM8, h⟩ := cV_inv h
    refine ew_callV 0 [.int (2 : Int32)] d_XModel_kept_35 cv_XModel_217 (T_XModel_step hM8) kM8 (Nat.le_trans (Nat.le_of_ble_eq_true rfl) hn) (Nat.le_trans (Nat.le_of_ble_eq_true rfl) hl) (Nat.le_of_ble_eq_true rfl) rfl rfl ?_
    refine ew_aload_n 0 d_XModel_kept_38 rfl rfl ?_
    refine ew_iconst (2) d_XModel_kept_39 (by decide) ?_
    obtain ⟨kM9, h⟩ := kO_inv h
    obtain ⟨M9, hM9, h⟩ := cV_inv h
    refine ew_callV 0 [.int (2 : Int32)] d_XModel_kept_40 cv_XModel_161 (T_XModel_putIn hM9) kM9 (Nat.le_trans (Nat.le_of_ble_eq_true rfl) hn) (Nat.le_trans (Nat.le_of_ble_eq_true rfl) hl) (Nat.le_of_ble_eq_true rfl) rfl rfl ?_
    refine ew_aload_n 0 d_XModel_kept_43 rfl rfl ?_
    obtain ⟨v10, av10, bv10, h⟩ := gR_inv h
    refine ew_gR 0 17 d_XModel_kept_44 fl_XModel_51 av10 bv10 ?_
    refine ew_aload_n 0 d_XModel_kept_47 rfl rfl ?_
    obtain ⟨v11, av11, bv11, h⟩ := gR_inv h
    refine ew_gR 0 16 d_XModel_kept_48 fl_XModel_48 av11 bv11 ?_
    refine ew_iload_n 1 d_XModel_kept_51 rfl rfl ?_
    obtain ⟨v12, av12, bv12, cv12, ev12, h⟩ := lI_inv h
    refine ew_lI d_XModel_kept_52 av12 bv12 cv12 ev12 ?_
    obtain ⟨v13, av13, bv13, cv13, ev13, h⟩ := lI_inv h
    refine ew_lI d_XModel_kept_53 av13 bv13 cv13 ev13 ?_
    refine ew_istore_n (L' := [(0, .ref l0), (1, .int l1), (2, .int v13)]) 2 [1, 2, 0] d_XModel_kept_54 rfl (by decide) rfl ?_
    refine ew_aload_n 0 d_XModel_kept_55 rfl rfl ?_
    obtain ⟨kM14, h⟩ := kO_inv h
    obtain ⟨M14, hM14, h⟩ := cV_inv h
    refine ew_callV 0 [] d_XModel_kept_56 cv_XModel_146 (T_XModel_unmark hM14) kM14 (Nat.le_trans (Nat.le_of_ble_eq_true rfl) hn) (Nat.le_trans (Nat.le_of_ble_eq_true rfl) hl) (Nat.le_of_ble_eq_true rfl) rfl rfl ?_
    refine ew_aload_n 0 d_XModel_kept_59 rfl rfl ?_
    refine ew_iload_n 2 d_XModel_kept_60 rfl rfl ?_
    obtain ⟨kM15, h⟩ := kO_inv h
    obtain ⟨M15, hM15, h⟩ := cV_inv h
    refine ew_callV 0 [.int v13] d_XModel_kept_61 cv_XModel_143 (T_XModel_mark hM15) kM15 (Nat.le_trans (Nat.le_of_ble_eq_true rfl) hn) (Nat.le_trans (Nat.le_of_ble_eq_true rfl) hl) (Nat.le_of_ble_eq_true rfl) rfl rfl ?_
    refine ew_iconst (0) d_XModel_kept_64 (by decide) ?_
    refine ew_istore_n (L' := [(0, .ref l0), (1, .int l1), (2, .int v13), (3, .int (0 : Int32))]) 3 [1, 2, 3, 0] d_XModel_kept_65 rfl (by decide) rfl ?_
    exact ew_pick (L' := [(0, .ref l0), (2, .int v13), (3, .int (0 : Int32))]) [0, 2, 3] rfl (E_XModel_kept_66 hn hl n l0 v13 (0 : Int32) M15 h)
  · rw [if_pos c5] at h
    refine ew_aload_n 0 d_XModel_kept_19 rfl rfl ?_
    refine ew_iconst (1) d_XModel_kept_20 (by decide) ?_
    obtain ⟨kM16, h⟩ := kO_inv h
    obtain ⟨v17, M16, hM16, h⟩ := cI_inv h
    refine ew_callV 0 [.int (1 : Int32)] d_XModel_kept_21 cv_XModel_111 (T_XModel_fail hM16) kM16 (Nat.le_trans (Nat.le_of_ble_eq_true rfl) hn) (Nat.le_trans (Nat.le_of_ble_eq_true rfl) hl) (Nat.le_of_ble_eq_true rfl) rfl rfl ?_
    obtain ⟨hz, hm⟩ := Prod.mk.inj (Option.some.inj h)
    exact ew_ireturn d_XModel_kept_24 rfl hz.symm hm.symm
theorem T_XModel_kept {n : Nat} {l0 : Nat} {l1 : Int32} {M Mf : PM} {res : qRs} (h : F_XModel_kept n l0 l1 M = some (res, Mf)) : CT Y_XModel_kept 7 165 [.ref l0, .int l1] M res Mf :=
  CT_of (by decide) (Nat.le_of_ble_eq_true rfl) (qHd_ne (by decide)) (fun g X ad0 => E_XModel_kept (g := g) (X := X) (Z := (ad0, M, res, Mf, 7, 165)) (Nat.le_refl _) (Nat.le_refl _) h)
theorem d_XModel_witness_0 : decode Y_XModel_witness.2.1 0 = .ok (.aload_n 0, 1) := by decide +kernel
theorem d_XModel_witness_1 : decode Y_XModel_witness.2.1 1 = .ok (.iconst 0, 1) := by decide +kernel
theorem d_XModel_witness_2 : decode Y_XModel_witness.2.1 2 = .ok (.putfield 87, 3) := by decide +kernel
theorem d_XModel_witness_5 : decode Y_XModel_witness.2.1 5 = .ok (.aload_n 0, 1) := by decide +kernel
theorem d_XModel_witness_6 : decode Y_XModel_witness.2.1 6 = .ok (.getfield 201, 3) := by decide +kernel
theorem d_XModel_witness_9 : decode Y_XModel_witness.2.1 9 = .ok (.ifCond .ne (9), 3) := by decide +kernel
theorem d_XModel_witness_12 : decode Y_XModel_witness.2.1 12 = .ok (.aload_n 0, 1) := by decide +kernel
theorem d_XModel_witness_13 : decode Y_XModel_witness.2.1 13 = .ok (.iconst 1, 1) := by decide +kernel
theorem d_XModel_witness_14 : decode Y_XModel_witness.2.1 14 = .ok (.invokevirtual 111, 3) := by decide +kernel
theorem d_XModel_witness_17 : decode Y_XModel_witness.2.1 17 = .ok (.ireturn, 1) := by decide +kernel
theorem d_XModel_witness_18 : decode Y_XModel_witness.2.1 18 = .ok (.iload_n 1, 1) := by decide +kernel
theorem d_XModel_witness_19 : decode Y_XModel_witness.2.1 19 = .ok (.iconst (-1), 1) := by decide +kernel
theorem d_XModel_witness_20 : decode Y_XModel_witness.2.1 20 = .ok (.if_icmp .ne (8), 3) := by decide +kernel
theorem d_XModel_witness_23 : decode Y_XModel_witness.2.1 23 = .ok (.aload_n 0, 1) := by decide +kernel
theorem d_XModel_witness_24 : decode Y_XModel_witness.2.1 24 = .ok (.getfield 192, 3) := by decide +kernel
theorem d_XModel_witness_27 : decode Y_XModel_witness.2.1 27 = .ok (.ireturn, 1) := by decide +kernel
theorem d_XModel_witness_28 : decode Y_XModel_witness.2.1 28 = .ok (.iload_n 1, 1) := by decide +kernel
theorem d_XModel_witness_29 : decode Y_XModel_witness.2.1 29 = .ok (.iconst 0, 1) := by decide +kernel
theorem d_XModel_witness_30 : decode Y_XModel_witness.2.1 30 = .ok (.aload_n 0, 1) := by decide +kernel
theorem d_XModel_witness_31 : decode Y_XModel_witness.2.1 31 = .ok (.getfield 198, 3) := by decide +kernel
theorem d_XModel_witness_34 : decode Y_XModel_witness.2.1 34 = .ok (.iconst 1, 1) := by decide +kernel
theorem d_XModel_witness_35 : decode Y_XModel_witness.2.1 35 = .ok (.isub, 1) := by decide +kernel
theorem d_XModel_witness_36 : decode Y_XModel_witness.2.1 36 = .ok (.invokestatic 115, 3) := by decide +kernel
theorem d_XModel_witness_39 : decode Y_XModel_witness.2.1 39 = .ok (.ifCond .eq (12), 3) := by decide +kernel
theorem d_XModel_witness_42 : decode Y_XModel_witness.2.1 42 = .ok (.aload_n 0, 1) := by decide +kernel
theorem d_XModel_witness_43 : decode Y_XModel_witness.2.1 43 = .ok (.getfield 78, 3) := by decide +kernel
theorem d_XModel_witness_46 : decode Y_XModel_witness.2.1 46 = .ok (.iload_n 1, 1) := by decide +kernel
theorem d_XModel_witness_47 : decode Y_XModel_witness.2.1 47 = .ok (.iaload, 1) := by decide +kernel
theorem d_XModel_witness_48 : decode Y_XModel_witness.2.1 48 = .ok (.goto (8), 3) := by decide +kernel
theorem d_XModel_witness_51 : decode Y_XModel_witness.2.1 51 = .ok (.aload_n 0, 1) := by decide +kernel
theorem d_XModel_witness_52 : decode Y_XModel_witness.2.1 52 = .ok (.iconst 2, 1) := by decide +kernel
theorem d_XModel_witness_53 : decode Y_XModel_witness.2.1 53 = .ok (.invokevirtual 111, 3) := by decide +kernel
theorem d_XModel_witness_56 : decode Y_XModel_witness.2.1 56 = .ok (.ireturn, 1) := by decide +kernel
def F_XModel_witness_56 (n : Nat) (s0 : Int32) (M : PM) : qO :=
  some (.inl (some (.int s0)), M)
set_option maxHeartbeats 4000000 in
set_option maxRecDepth 100000 in
theorem E_XModel_witness_56 {g : qG} {X : qX} {Z : qZ} (hn : 1 ≤ zn Z) (hl : 22 ≤ zl Z) {n : Nat} {s0 : Int32} {M : PM} (h : F_XModel_witness_56 n s0 M = some (zr Z, zf Z)) : EW Y_XModel_witness g X Z 56 [] [.int s0] M := by
  unfold F_XModel_witness_56 at h
  obtain ⟨hz, hm⟩ := Prod.mk.inj (Option.some.inj h)
  exact ew_ireturn d_XModel_witness_56 rfl hz.symm hm.symm
def F_XModel_witness (n : Nat) (l0 : Nat) (l1 : Int32) (M : PM) : qO :=
  pF 0 M l0 0 (.int (0 : Int32)) (fun M1 =>
  gI 0 M1 l0 31 (fun v2 =>
  if v2 = (0 : Int32) then
    kO 0 M1 l0 (
    cI (F_XModel_fail n l0 (1 : Int32) M1) (fun v15 M14 =>
    some (.inl (some (.int v15)), M14)))
  else
    if l1 = (-1 : Int32) then
      gI 0 M1 l0 33 (fun v13 =>
      some (.inl (some (.int v13)), M1))
    else
      gI 0 M1 l0 35 (fun v5 =>
      cI (F_XModel_within n l1 (0 : Int32) (v5 - (1 : Int32)) M1) (fun v7 M6 =>
      if v7 = (0 : Int32) then
        kO 0 M6 l0 (
        cI (F_XModel_fail n l0 (2 : Int32) M6) (fun v10 M9 =>
        F_XModel_witness_56 n v10 M9))
      else
        gR 0 M6 l0 32 (fun v11 =>
        lI M6 v11 l1 (fun v12 =>
        F_XModel_witness_56 n v12 M6))))))
set_option maxHeartbeats 4000000 in
set_option maxRecDepth 100000 in
theorem E_XModel_witness {g : qG} {X : qX} {Z : qZ} (hn : 1 ≤ zn Z) (hl : 22 ≤ zl Z) {n : Nat} {l0 : Nat} {l1 : Int32} {M : PM} (h : F_XModel_witness n l0 l1 M = some (zr Z, zf Z)) : EW Y_XModel_witness g X Z 0 [(0, .ref l0), (1, .int l1)] [] M := by
  unfold F_XModel_witness at h
  refine ew_aload_n 0 d_XModel_witness_0 rfl rfl ?_
  refine ew_iconst (0) d_XModel_witness_1 (by decide) ?_
  obtain ⟨M1, aM1, eM1, h⟩ := pF_inv h
  refine ew_pF 0 0 d_XModel_witness_2 fl_XModel_87 aM1 eM1 (fun ad => ⟨rfl, rfl⟩) ?_
  refine ew_aload_n 0 d_XModel_witness_5 rfl rfl ?_
  obtain ⟨v2, av2, bv2, h⟩ := gI_inv h
  refine ew_gI 0 31 d_XModel_witness_6 fl_XModel_201 av2 bv2 ?_
  refine ew_if_ne 18 d_XModel_witness_9 (by decide) (fun c3 => ?_) (fun c3 => ?_)
  · rw [if_neg c3] at h
    refine ew_iload_n 1 d_XModel_witness_18 rfl rfl ?_
    refine ew_iconst (-1) d_XModel_witness_19 (by decide) ?_
    refine ew_icmp_ne 28 d_XModel_witness_20 (by decide) (fun c4 => ?_) (fun c4 => ?_)
    · rw [if_neg c4] at h
      refine ew_iload_n 1 d_XModel_witness_28 rfl rfl ?_
      refine ew_iconst (0) d_XModel_witness_29 (by decide) ?_
      refine ew_aload_n 0 d_XModel_witness_30 rfl rfl ?_
      obtain ⟨v5, av5, bv5, h⟩ := gI_inv h
      refine ew_gI 0 35 d_XModel_witness_31 fl_XModel_198 av5 bv5 ?_
      refine ew_iconst (1) d_XModel_witness_34 (by decide) ?_
      refine ew_isub d_XModel_witness_35 ?_
      obtain ⟨v7, M6, hM6, h⟩ := cI_inv h
      refine ew_callS [.int l1, .int (0 : Int32), .int (v5 - (1 : Int32))] d_XModel_witness_36 cs_XModel_115 (T_XModel_within hM6) (Nat.le_trans (Nat.le_of_ble_eq_true rfl) hn) (Nat.le_trans (Nat.le_of_ble_eq_true rfl) hl) (Nat.le_of_ble_eq_true rfl) rfl rfl ?_
      refine ew_if_eq 51 d_XModel_witness_39 (by decide) (fun c8 => ?_) (fun c8 => ?_)
      · rw [if_pos c8] at h
        refine ew_aload_n 0 d_XModel_witness_51 rfl rfl ?_
        refine ew_iconst (2) d_XModel_witness_52 (by decide) ?_
        obtain ⟨kM9, h⟩ := kO_inv h
        obtain ⟨v10, M9, hM9, h⟩ := cI_inv h
        refine ew_callV 0 [.int (2 : Int32)] d_XModel_witness_53 cv_XModel_111 (T_XModel_fail hM9) kM9 (Nat.le_trans (Nat.le_of_ble_eq_true rfl) hn) (Nat.le_trans (Nat.le_of_ble_eq_true rfl) hl) (Nat.le_of_ble_eq_true rfl) rfl rfl ?_
        exact ew_pick (L' := []) [] rfl (E_XModel_witness_56 hn hl h)
      · rw [if_neg c8] at h
        refine ew_aload_n 0 d_XModel_witness_42 rfl rfl ?_
        obtain ⟨v11, av11, bv11, h⟩ := gR_inv h
        refine ew_gR 0 32 d_XModel_witness_43 fl_XModel_78 av11 bv11 ?_
        refine ew_iload_n 1 d_XModel_witness_46 rfl rfl ?_
        obtain ⟨v12, av12, bv12, cv12, ev12, h⟩ := lI_inv h
        refine ew_lI d_XModel_witness_47 av12 bv12 cv12 ev12 ?_
        refine ew_goto 56 d_XModel_witness_48 (by decide) ?_
        exact ew_pick (L' := []) [] rfl (E_XModel_witness_56 hn hl h)
    · rw [if_pos c4] at h
      refine ew_aload_n 0 d_XModel_witness_23 rfl rfl ?_
      obtain ⟨v13, av13, bv13, h⟩ := gI_inv h
      refine ew_gI 0 33 d_XModel_witness_24 fl_XModel_192 av13 bv13 ?_
      obtain ⟨hz, hm⟩ := Prod.mk.inj (Option.some.inj h)
      exact ew_ireturn d_XModel_witness_27 rfl hz.symm hm.symm
  · rw [if_pos c3] at h
    refine ew_aload_n 0 d_XModel_witness_12 rfl rfl ?_
    refine ew_iconst (1) d_XModel_witness_13 (by decide) ?_
    obtain ⟨kM14, h⟩ := kO_inv h
    obtain ⟨v15, M14, hM14, h⟩ := cI_inv h
    refine ew_callV 0 [.int (1 : Int32)] d_XModel_witness_14 cv_XModel_111 (T_XModel_fail hM14) kM14 (Nat.le_trans (Nat.le_of_ble_eq_true rfl) hn) (Nat.le_trans (Nat.le_of_ble_eq_true rfl) hl) (Nat.le_of_ble_eq_true rfl) rfl rfl ?_
    obtain ⟨hz, hm⟩ := Prod.mk.inj (Option.some.inj h)
    exact ew_ireturn d_XModel_witness_17 rfl hz.symm hm.symm
theorem T_XModel_witness {n : Nat} {l0 : Nat} {l1 : Int32} {M Mf : PM} {res : qRs} (h : F_XModel_witness n l0 l1 M = some (res, Mf)) : CT Y_XModel_witness 1 22 [.ref l0, .int l1] M res Mf :=
  CT_of (by decide) (Nat.le_of_ble_eq_true rfl) (qHd_ne (by decide)) (fun g X ad0 => E_XModel_witness (g := g) (X := X) (Z := (ad0, M, res, Mf, 1, 22)) (Nat.le_refl _) (Nat.le_refl _) h)
theorem d_XModel_differs_0 : decode Y_XModel_differs.2.1 0 = .ok (.aload_n 0, 1) := by decide +kernel
theorem d_XModel_differs_1 : decode Y_XModel_differs.2.1 1 = .ok (.iconst 0, 1) := by decide +kernel
theorem d_XModel_differs_2 : decode Y_XModel_differs.2.1 2 = .ok (.putfield 87, 3) := by decide +kernel
theorem d_XModel_differs_5 : decode Y_XModel_differs.2.1 5 = .ok (.aload_n 0, 1) := by decide +kernel
theorem d_XModel_differs_6 : decode Y_XModel_differs.2.1 6 = .ok (.getfield 201, 3) := by decide +kernel
theorem d_XModel_differs_9 : decode Y_XModel_differs.2.1 9 = .ok (.ifCond .eq (10), 3) := by decide +kernel
theorem d_XModel_differs_12 : decode Y_XModel_differs.2.1 12 = .ok (.aload_n 0, 1) := by decide +kernel
theorem d_XModel_differs_13 : decode Y_XModel_differs.2.1 13 = .ok (.getfield 195, 3) := by decide +kernel
theorem d_XModel_differs_16 : decode Y_XModel_differs.2.1 16 = .ok (.goto (8), 3) := by decide +kernel
theorem d_XModel_differs_19 : decode Y_XModel_differs.2.1 19 = .ok (.aload_n 0, 1) := by decide +kernel
theorem d_XModel_differs_20 : decode Y_XModel_differs.2.1 20 = .ok (.iconst 1, 1) := by decide +kernel
theorem d_XModel_differs_21 : decode Y_XModel_differs.2.1 21 = .ok (.invokevirtual 111, 3) := by decide +kernel
theorem d_XModel_differs_24 : decode Y_XModel_differs.2.1 24 = .ok (.ireturn, 1) := by decide +kernel
def F_XModel_differs_24 (n : Nat) (s0 : Int32) (M : PM) : qO :=
  some (.inl (some (.int s0)), M)
set_option maxHeartbeats 4000000 in
set_option maxRecDepth 100000 in
theorem E_XModel_differs_24 {g : qG} {X : qX} {Z : qZ} (hn : 1 ≤ zn Z) (hl : 21 ≤ zl Z) {n : Nat} {s0 : Int32} {M : PM} (h : F_XModel_differs_24 n s0 M = some (zr Z, zf Z)) : EW Y_XModel_differs g X Z 24 [] [.int s0] M := by
  unfold F_XModel_differs_24 at h
  obtain ⟨hz, hm⟩ := Prod.mk.inj (Option.some.inj h)
  exact ew_ireturn d_XModel_differs_24 rfl hz.symm hm.symm
def F_XModel_differs (n : Nat) (l0 : Nat) (M : PM) : qO :=
  pF 0 M l0 0 (.int (0 : Int32)) (fun M1 =>
  gI 0 M1 l0 31 (fun v2 =>
  if v2 = (0 : Int32) then
    kO 0 M1 l0 (
    cI (F_XModel_fail n l0 (1 : Int32) M1) (fun v5 M4 =>
    F_XModel_differs_24 n v5 M4))
  else
    gI 0 M1 l0 34 (fun v6 =>
    F_XModel_differs_24 n v6 M1)))
set_option maxHeartbeats 4000000 in
set_option maxRecDepth 100000 in
theorem E_XModel_differs {g : qG} {X : qX} {Z : qZ} (hn : 1 ≤ zn Z) (hl : 21 ≤ zl Z) {n : Nat} {l0 : Nat} {M : PM} (h : F_XModel_differs n l0 M = some (zr Z, zf Z)) : EW Y_XModel_differs g X Z 0 [(0, .ref l0)] [] M := by
  unfold F_XModel_differs at h
  refine ew_aload_n 0 d_XModel_differs_0 rfl rfl ?_
  refine ew_iconst (0) d_XModel_differs_1 (by decide) ?_
  obtain ⟨M1, aM1, eM1, h⟩ := pF_inv h
  refine ew_pF 0 0 d_XModel_differs_2 fl_XModel_87 aM1 eM1 (fun ad => ⟨rfl, rfl⟩) ?_
  refine ew_aload_n 0 d_XModel_differs_5 rfl rfl ?_
  obtain ⟨v2, av2, bv2, h⟩ := gI_inv h
  refine ew_gI 0 31 d_XModel_differs_6 fl_XModel_201 av2 bv2 ?_
  refine ew_if_eq 19 d_XModel_differs_9 (by decide) (fun c3 => ?_) (fun c3 => ?_)
  · rw [if_pos c3] at h
    refine ew_aload_n 0 d_XModel_differs_19 rfl rfl ?_
    refine ew_iconst (1) d_XModel_differs_20 (by decide) ?_
    obtain ⟨kM4, h⟩ := kO_inv h
    obtain ⟨v5, M4, hM4, h⟩ := cI_inv h
    refine ew_callV 0 [.int (1 : Int32)] d_XModel_differs_21 cv_XModel_111 (T_XModel_fail hM4) kM4 (Nat.le_trans (Nat.le_of_ble_eq_true rfl) hn) (Nat.le_trans (Nat.le_of_ble_eq_true rfl) hl) (Nat.le_of_ble_eq_true rfl) rfl rfl ?_
    exact ew_pick (L' := []) [] rfl (E_XModel_differs_24 hn hl h)
  · rw [if_neg c3] at h
    refine ew_aload_n 0 d_XModel_differs_12 rfl rfl ?_
    obtain ⟨v6, av6, bv6, h⟩ := gI_inv h
    refine ew_gI 0 34 d_XModel_differs_13 fl_XModel_195 av6 bv6 ?_
    refine ew_goto 24 d_XModel_differs_16 (by decide) ?_
    exact ew_pick (L' := []) [] rfl (E_XModel_differs_24 hn hl h)
theorem T_XModel_differs {n : Nat} {l0 : Nat} {M Mf : PM} {res : qRs} (h : F_XModel_differs n l0 M = some (res, Mf)) : CT Y_XModel_differs 1 21 [.ref l0] M res Mf :=
  CT_of (by decide) (Nat.le_of_ble_eq_true rfl) (qHd_ne (by decide)) (fun g X ad0 => E_XModel_differs (g := g) (X := X) (Z := (ad0, M, res, Mf, 1, 21)) (Nat.le_refl _) (Nat.le_refl _) h)
