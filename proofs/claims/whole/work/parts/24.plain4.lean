theorem d_XProver_countDeep_0 : decode Y_XProver_countDeep.2.1 0 = .ok (.aload_n 0, 1) := by decide +kernel
theorem d_XProver_countDeep_1 : decode Y_XProver_countDeep.2.1 1 = .ok (.getfield 14, 3) := by decide +kernel
theorem d_XProver_countDeep_4 : decode Y_XProver_countDeep.2.1 4 = .ok (.aload_n 0, 1) := by decide +kernel
theorem d_XProver_countDeep_5 : decode Y_XProver_countDeep.2.1 5 = .ok (.getfield 36, 3) := by decide +kernel
theorem d_XProver_countDeep_8 : decode Y_XProver_countDeep.2.1 8 = .ok (.invokevirtual 145, 3) := by decide +kernel
theorem d_XProver_countDeep_11 : decode Y_XProver_countDeep.2.1 11 = .ok (.iconst 0, 1) := by decide +kernel
theorem d_XProver_countDeep_12 : decode Y_XProver_countDeep.2.1 12 = .ok (.istore_n 2, 1) := by decide +kernel
theorem d_XProver_countDeep_13 : decode Y_XProver_countDeep.2.1 13 = .ok (.iload_n 2, 1) := by decide +kernel
theorem d_XProver_countDeep_14 : decode Y_XProver_countDeep.2.1 14 = .ok (.aload_n 0, 1) := by decide +kernel
theorem d_XProver_countDeep_15 : decode Y_XProver_countDeep.2.1 15 = .ok (.getfield 14, 3) := by decide +kernel
theorem d_XProver_countDeep_18 : decode Y_XProver_countDeep.2.1 18 = .ok (.getfield 148, 3) := by decide +kernel
theorem d_XProver_countDeep_21 : decode Y_XProver_countDeep.2.1 21 = .ok (.if_icmp .ge (71), 3) := by decide +kernel
theorem d_XProver_countDeep_24 : decode Y_XProver_countDeep.2.1 24 = .ok (.aload_n 0, 1) := by decide +kernel
theorem d_XProver_countDeep_25 : decode Y_XProver_countDeep.2.1 25 = .ok (.getfield 36, 3) := by decide +kernel
theorem d_XProver_countDeep_28 : decode Y_XProver_countDeep.2.1 28 = .ok (.iload_n 2, 1) := by decide +kernel
theorem d_XProver_countDeep_29 : decode Y_XProver_countDeep.2.1 29 = .ok (.baload, 1) := by decide +kernel
theorem d_XProver_countDeep_30 : decode Y_XProver_countDeep.2.1 30 = .ok (.ifCond .eq (56), 3) := by decide +kernel
theorem d_XProver_countDeep_33 : decode Y_XProver_countDeep.2.1 33 = .ok (.aload_n 0, 1) := by decide +kernel
theorem d_XProver_countDeep_34 : decode Y_XProver_countDeep.2.1 34 = .ok (.getfield 14, 3) := by decide +kernel
theorem d_XProver_countDeep_37 : decode Y_XProver_countDeep.2.1 37 = .ok (.getfield 151, 3) := by decide +kernel
theorem d_XProver_countDeep_40 : decode Y_XProver_countDeep.2.1 40 = .ok (.iload_n 2, 1) := by decide +kernel
theorem d_XProver_countDeep_41 : decode Y_XProver_countDeep.2.1 41 = .ok (.iaload, 1) := by decide +kernel
theorem d_XProver_countDeep_42 : decode Y_XProver_countDeep.2.1 42 = .ok (.istore_n 3, 1) := by decide +kernel
theorem d_XProver_countDeep_43 : decode Y_XProver_countDeep.2.1 43 = .ok (.iload_n 3, 1) := by decide +kernel
theorem d_XProver_countDeep_44 : decode Y_XProver_countDeep.2.1 44 = .ok (.iconst 3, 1) := by decide +kernel
theorem d_XProver_countDeep_45 : decode Y_XProver_countDeep.2.1 45 = .ok (.if_icmp .eq (8), 3) := by decide +kernel
theorem d_XProver_countDeep_48 : decode Y_XProver_countDeep.2.1 48 = .ok (.iload_n 3, 1) := by decide +kernel
theorem d_XProver_countDeep_49 : decode Y_XProver_countDeep.2.1 49 = .ok (.iconst 5, 1) := by decide +kernel
theorem d_XProver_countDeep_50 : decode Y_XProver_countDeep.2.1 50 = .ok (.if_icmp .ne (16), 3) := by decide +kernel
theorem d_XProver_countDeep_53 : decode Y_XProver_countDeep.2.1 53 = .ok (.aload_n 1, 1) := by decide +kernel
theorem d_XProver_countDeep_54 : decode Y_XProver_countDeep.2.1 54 = .ok (.dup, 1) := by decide +kernel
theorem d_XProver_countDeep_55 : decode Y_XProver_countDeep.2.1 55 = .ok (.getfield 154, 3) := by decide +kernel
theorem d_XProver_countDeep_58 : decode Y_XProver_countDeep.2.1 58 = .ok (.iconst 1, 1) := by decide +kernel
theorem d_XProver_countDeep_59 : decode Y_XProver_countDeep.2.1 59 = .ok (.iadd, 1) := by decide +kernel
theorem d_XProver_countDeep_60 : decode Y_XProver_countDeep.2.1 60 = .ok (.putfield 154, 3) := by decide +kernel
theorem d_XProver_countDeep_63 : decode Y_XProver_countDeep.2.1 63 = .ok (.goto (23), 3) := by decide +kernel
theorem d_XProver_countDeep_66 : decode Y_XProver_countDeep.2.1 66 = .ok (.iload_n 3, 1) := by decide +kernel
theorem d_XProver_countDeep_67 : decode Y_XProver_countDeep.2.1 67 = .ok (.iconst 4, 1) := by decide +kernel
theorem d_XProver_countDeep_68 : decode Y_XProver_countDeep.2.1 68 = .ok (.if_icmp .eq (8), 3) := by decide +kernel
theorem d_XProver_countDeep_71 : decode Y_XProver_countDeep.2.1 71 = .ok (.iload_n 3, 1) := by decide +kernel
theorem d_XProver_countDeep_72 : decode Y_XProver_countDeep.2.1 72 = .ok (.iconst 2, 1) := by decide +kernel
theorem d_XProver_countDeep_73 : decode Y_XProver_countDeep.2.1 73 = .ok (.if_icmp .ne (13), 3) := by decide +kernel
theorem d_XProver_countDeep_76 : decode Y_XProver_countDeep.2.1 76 = .ok (.aload_n 1, 1) := by decide +kernel
theorem d_XProver_countDeep_77 : decode Y_XProver_countDeep.2.1 77 = .ok (.dup, 1) := by decide +kernel
theorem d_XProver_countDeep_78 : decode Y_XProver_countDeep.2.1 78 = .ok (.getfield 157, 3) := by decide +kernel
theorem d_XProver_countDeep_81 : decode Y_XProver_countDeep.2.1 81 = .ok (.iconst 1, 1) := by decide +kernel
theorem d_XProver_countDeep_82 : decode Y_XProver_countDeep.2.1 82 = .ok (.iadd, 1) := by decide +kernel
theorem d_XProver_countDeep_83 : decode Y_XProver_countDeep.2.1 83 = .ok (.putfield 157, 3) := by decide +kernel
theorem d_XProver_countDeep_86 : decode Y_XProver_countDeep.2.1 86 = .ok (.iinc 2 (1), 3) := by decide +kernel
theorem d_XProver_countDeep_89 : decode Y_XProver_countDeep.2.1 89 = .ok (.goto (-76), 3) := by decide +kernel
theorem d_XProver_countDeep_92 : decode Y_XProver_countDeep.2.1 92 = .ok (.return_, 1) := by decide +kernel
def F_XProver_countDeep_86 (n : Nat) (rec13 : Nat → Nat → Int32 → PM → qO) (l0 : Nat) (l1 : Nat) (l2 : Int32) (M : PM) : qO :=
  bI (l2 + (1 : Int32)) (fun v1 =>
  rec13 l0 l1 v1 M)
set_option maxHeartbeats 4000000 in
set_option maxRecDepth 100000 in
theorem E_XProver_countDeep_86 {g : qG} {X : qX} {Z : qZ} (hn : 3 ≤ zn Z) (hl : 65 ≤ zl Z) {n : Nat} {rec13 : Nat → Nat → Int32 → PM → qO} (hrec13 : ∀ (l0 : Nat) (l1 : Nat) (l2 : Int32) (M : PM), rec13 l0 l1 l2 M = some (zr Z, zf Z) → EW Y_XProver_countDeep g X Z 13 [(0, .ref l0), (1, .ref l1), (2, .int l2)] [] M) {l0 : Nat} {l1 : Nat} {l2 : Int32} {M : PM} (h : F_XProver_countDeep_86 n rec13 l0 l1 l2 M = some (zr Z, zf Z)) : EW Y_XProver_countDeep g X Z 86 [(0, .ref l0), (1, .ref l1), (2, .int l2)] [] M := by
  unfold F_XProver_countDeep_86 at h
  obtain ⟨v1, ev1, h⟩ := bI_inv h
  refine ew_iinc (L' := [(0, .ref l0), (1, .ref l1), (2, .int v1)]) v1 [1, 2, 0] d_XProver_countDeep_86 rfl (by rw [ev1]; rfl) (by decide) rfl ?_
  refine ew_goto 13 d_XProver_countDeep_89 (by decide) ?_
  exact hrec13 l0 l1 v1 M h
def F_XProver_countDeep_53 (n : Nat) (rec13 : Nat → Nat → Int32 → PM → qO) (l0 : Nat) (l1 : Nat) (l2 : Int32) (M : PM) : qO :=
  gI 4 M l1 5 (fun v1 =>
  pF 4 M l1 5 (.int (v1 + (1 : Int32))) (fun M2 =>
  F_XProver_countDeep_86 n rec13 l0 l1 l2 M2))
set_option maxHeartbeats 4000000 in
set_option maxRecDepth 100000 in
theorem E_XProver_countDeep_53 {g : qG} {X : qX} {Z : qZ} (hn : 3 ≤ zn Z) (hl : 65 ≤ zl Z) {n : Nat} {rec13 : Nat → Nat → Int32 → PM → qO} (hrec13 : ∀ (l0 : Nat) (l1 : Nat) (l2 : Int32) (M : PM), rec13 l0 l1 l2 M = some (zr Z, zf Z) → EW Y_XProver_countDeep g X Z 13 [(0, .ref l0), (1, .ref l1), (2, .int l2)] [] M) {l0 : Nat} {l1 : Nat} {l2 : Int32} {M : PM} (h : F_XProver_countDeep_53 n rec13 l0 l1 l2 M = some (zr Z, zf Z)) : EW Y_XProver_countDeep g X Z 53 [(0, .ref l0), (1, .ref l1), (2, .int l2)] [] M := by
  unfold F_XProver_countDeep_53 at h
  refine ew_aload_n 1 d_XProver_countDeep_53 rfl rfl ?_
  refine ew_dup d_XProver_countDeep_54 rfl ?_
  obtain ⟨v1, av1, bv1, h⟩ := gI_inv h
  refine ew_gI 4 5 d_XProver_countDeep_55 fl_XProver_154 av1 bv1 ?_
  refine ew_iconst (1) d_XProver_countDeep_58 (by decide) ?_
  refine ew_iadd d_XProver_countDeep_59 ?_
  obtain ⟨M2, aM2, eM2, h⟩ := pF_inv h
  refine ew_pF 4 5 d_XProver_countDeep_60 fl_XProver_154 aM2 eM2 (fun ad => ⟨rfl, rfl⟩) ?_
  refine ew_goto 86 d_XProver_countDeep_63 (by decide) ?_
  exact E_XProver_countDeep_86 hn hl hrec13 h
def F_XProver_countDeep_76 (n : Nat) (rec13 : Nat → Nat → Int32 → PM → qO) (l0 : Nat) (l1 : Nat) (l2 : Int32) (M : PM) : qO :=
  gI 4 M l1 6 (fun v1 =>
  pF 4 M l1 6 (.int (v1 + (1 : Int32))) (fun M2 =>
  F_XProver_countDeep_86 n rec13 l0 l1 l2 M2))
set_option maxHeartbeats 4000000 in
set_option maxRecDepth 100000 in
theorem E_XProver_countDeep_76 {g : qG} {X : qX} {Z : qZ} (hn : 3 ≤ zn Z) (hl : 65 ≤ zl Z) {n : Nat} {rec13 : Nat → Nat → Int32 → PM → qO} (hrec13 : ∀ (l0 : Nat) (l1 : Nat) (l2 : Int32) (M : PM), rec13 l0 l1 l2 M = some (zr Z, zf Z) → EW Y_XProver_countDeep g X Z 13 [(0, .ref l0), (1, .ref l1), (2, .int l2)] [] M) {l0 : Nat} {l1 : Nat} {l2 : Int32} {M : PM} (h : F_XProver_countDeep_76 n rec13 l0 l1 l2 M = some (zr Z, zf Z)) : EW Y_XProver_countDeep g X Z 76 [(0, .ref l0), (1, .ref l1), (2, .int l2)] [] M := by
  unfold F_XProver_countDeep_76 at h
  refine ew_aload_n 1 d_XProver_countDeep_76 rfl rfl ?_
  refine ew_dup d_XProver_countDeep_77 rfl ?_
  obtain ⟨v1, av1, bv1, h⟩ := gI_inv h
  refine ew_gI 4 6 d_XProver_countDeep_78 fl_XProver_157 av1 bv1 ?_
  refine ew_iconst (1) d_XProver_countDeep_81 (by decide) ?_
  refine ew_iadd d_XProver_countDeep_82 ?_
  obtain ⟨M2, aM2, eM2, h⟩ := pF_inv h
  refine ew_pF 4 6 d_XProver_countDeep_83 fl_XProver_157 aM2 eM2 (fun ad => ⟨rfl, rfl⟩) ?_
  exact E_XProver_countDeep_86 hn hl hrec13 h
def F_XProver_countDeep_13 (n : Nat) : Nat → Nat → Nat → Int32 → PM → qO
  | 0, _, _, _, _ => none
  | f + 1, l0, l1, l2, M =>
    gR 6 M l0 0 (fun v1 =>
    gI 3 M v1 7 (fun v2 =>
    if v2 ≤ l2 then
      some (.inl none, M)
    else
      gR 6 M l0 3 (fun v4 =>
      lZ M v4 l2 (fun v5 =>
      if v5 = (0 : Int32) then
        F_XProver_countDeep_86 n (F_XProver_countDeep_13 n f) l0 l1 l2 M
      else
        gR 6 M l0 0 (fun v7 =>
        gR 3 M v7 0 (fun v8 =>
        lI M v8 l2 (fun v9 =>
        if v9 = (3 : Int32) then
          F_XProver_countDeep_53 n (F_XProver_countDeep_13 n f) l0 l1 l2 M
        else
          if v9 = (5 : Int32) then
            F_XProver_countDeep_53 n (F_XProver_countDeep_13 n f) l0 l1 l2 M
          else
            if v9 = (4 : Int32) then
              F_XProver_countDeep_76 n (F_XProver_countDeep_13 n f) l0 l1 l2 M
            else
              if v9 = (2 : Int32) then
                F_XProver_countDeep_76 n (F_XProver_countDeep_13 n f) l0 l1 l2 M
              else
                F_XProver_countDeep_86 n (F_XProver_countDeep_13 n f) l0 l1 l2 M)))))))
set_option maxHeartbeats 4000000 in
set_option maxRecDepth 100000 in
theorem E_XProver_countDeep_13 {g : qG} {X : qX} {Z : qZ} (hn : 3 ≤ zn Z) (hl : 65 ≤ zl Z) {n : Nat} : ∀ (f : Nat) (l0 : Nat) (l1 : Nat) (l2 : Int32) (M : PM), F_XProver_countDeep_13 n f l0 l1 l2 M = some (zr Z, zf Z) → EW Y_XProver_countDeep g X Z 13 [(0, .ref l0), (1, .ref l1), (2, .int l2)] [] M := by
  intro f
  induction f with
  | zero => intro l0 l1 l2 M h; rw [F_XProver_countDeep_13] at h; cases h
  | succ f ih =>
    intro l0 l1 l2 M h
    rw [F_XProver_countDeep_13] at h
    refine ew_iload_n 2 d_XProver_countDeep_13 rfl rfl ?_
    refine ew_aload_n 0 d_XProver_countDeep_14 rfl rfl ?_
    obtain ⟨v1, av1, bv1, h⟩ := gR_inv h
    refine ew_gR 6 0 d_XProver_countDeep_15 fl_XProver_14 av1 bv1 ?_
    obtain ⟨v2, av2, bv2, h⟩ := gI_inv h
    refine ew_gI 3 7 d_XProver_countDeep_18 fl_XProver_148 av2 bv2 ?_
    refine ew_icmp_ge 92 d_XProver_countDeep_21 (by decide) (fun c3 => ?_) (fun c3 => ?_)
    · rw [if_pos c3] at h
      obtain ⟨hz, hm⟩ := Prod.mk.inj (Option.some.inj h)
      exact ew_return d_XProver_countDeep_92 rfl hz.symm hm.symm
    · rw [if_neg c3] at h
      refine ew_aload_n 0 d_XProver_countDeep_24 rfl rfl ?_
      obtain ⟨v4, av4, bv4, h⟩ := gR_inv h
      refine ew_gR 6 3 d_XProver_countDeep_25 fl_XProver_36 av4 bv4 ?_
      refine ew_iload_n 2 d_XProver_countDeep_28 rfl rfl ?_
      obtain ⟨v5, av5, bv5, cv5, ev5, h⟩ := lZ_inv h
      refine ew_lZ d_XProver_countDeep_29 av5 bv5 cv5 ev5 ?_
      refine ew_if_eq 86 d_XProver_countDeep_30 (by decide) (fun c6 => ?_) (fun c6 => ?_)
      · rw [if_pos c6] at h
        exact E_XProver_countDeep_86 hn hl ih h
      · rw [if_neg c6] at h
        refine ew_aload_n 0 d_XProver_countDeep_33 rfl rfl ?_
        obtain ⟨v7, av7, bv7, h⟩ := gR_inv h
        refine ew_gR 6 0 d_XProver_countDeep_34 fl_XProver_14 av7 bv7 ?_
        obtain ⟨v8, av8, bv8, h⟩ := gR_inv h
        refine ew_gR 3 0 d_XProver_countDeep_37 fl_XProver_151 av8 bv8 ?_
        refine ew_iload_n 2 d_XProver_countDeep_40 rfl rfl ?_
        obtain ⟨v9, av9, bv9, cv9, ev9, h⟩ := lI_inv h
        refine ew_lI d_XProver_countDeep_41 av9 bv9 cv9 ev9 ?_
        refine ew_istore_n (L' := [(0, .ref l0), (1, .ref l1), (2, .int l2), (3, .int v9)]) 3 [1, 2, 3, 0] d_XProver_countDeep_42 rfl (by decide) rfl ?_
        refine ew_iload_n 3 d_XProver_countDeep_43 rfl rfl ?_
        refine ew_iconst (3) d_XProver_countDeep_44 (by decide) ?_
        refine ew_icmp_eq 53 d_XProver_countDeep_45 (by decide) (fun c10 => ?_) (fun c10 => ?_)
        · rw [if_pos c10] at h
          exact ew_pick (L' := [(0, .ref l0), (1, .ref l1), (2, .int l2)]) [0, 1, 2] rfl (E_XProver_countDeep_53 hn hl ih h)
        · rw [if_neg c10] at h
          refine ew_iload_n 3 d_XProver_countDeep_48 rfl rfl ?_
          refine ew_iconst (5) d_XProver_countDeep_49 (by decide) ?_
          refine ew_icmp_ne 66 d_XProver_countDeep_50 (by decide) (fun c11 => ?_) (fun c11 => ?_)
          · rw [if_neg c11] at h
            refine ew_iload_n 3 d_XProver_countDeep_66 rfl rfl ?_
            refine ew_iconst (4) d_XProver_countDeep_67 (by decide) ?_
            refine ew_icmp_eq 76 d_XProver_countDeep_68 (by decide) (fun c12 => ?_) (fun c12 => ?_)
            · rw [if_pos c12] at h
              exact ew_pick (L' := [(0, .ref l0), (1, .ref l1), (2, .int l2)]) [0, 1, 2] rfl (E_XProver_countDeep_76 hn hl ih h)
            · rw [if_neg c12] at h
              refine ew_iload_n 3 d_XProver_countDeep_71 rfl rfl ?_
              refine ew_iconst (2) d_XProver_countDeep_72 (by decide) ?_
              refine ew_icmp_ne 86 d_XProver_countDeep_73 (by decide) (fun c13 => ?_) (fun c13 => ?_)
              · rw [if_neg c13] at h
                exact ew_pick (L' := [(0, .ref l0), (1, .ref l1), (2, .int l2)]) [0, 1, 2] rfl (E_XProver_countDeep_86 hn hl ih h)
              · rw [if_pos c13] at h
                exact ew_pick (L' := [(0, .ref l0), (1, .ref l1), (2, .int l2)]) [0, 1, 2] rfl (E_XProver_countDeep_76 hn hl ih h)
          · rw [if_pos c11] at h
            exact ew_pick (L' := [(0, .ref l0), (1, .ref l1), (2, .int l2)]) [0, 1, 2] rfl (E_XProver_countDeep_53 hn hl ih h)
def F_XProver_countDeep (n : Nat) (l0 : Nat) (l1 : Nat) (M : PM) : qO :=
  gR 6 M l0 0 (fun v1 =>
  gR 6 M l0 3 (fun v2 =>
  kO 3 M v1 (
  cV (F_XNodes_spread n v1 v2 M) (fun M3 =>
  F_XProver_countDeep_13 n n l0 l1 (0 : Int32) M3))))
set_option maxHeartbeats 4000000 in
set_option maxRecDepth 100000 in
theorem E_XProver_countDeep {g : qG} {X : qX} {Z : qZ} (hn : 3 ≤ zn Z) (hl : 65 ≤ zl Z) {n : Nat} {l0 : Nat} {l1 : Nat} {M : PM} (h : F_XProver_countDeep n l0 l1 M = some (zr Z, zf Z)) : EW Y_XProver_countDeep g X Z 0 [(0, .ref l0), (1, .ref l1)] [] M := by
  unfold F_XProver_countDeep at h
  refine ew_aload_n 0 d_XProver_countDeep_0 rfl rfl ?_
  obtain ⟨v1, av1, bv1, h⟩ := gR_inv h
  refine ew_gR 6 0 d_XProver_countDeep_1 fl_XProver_14 av1 bv1 ?_
  refine ew_aload_n 0 d_XProver_countDeep_4 rfl rfl ?_
  obtain ⟨v2, av2, bv2, h⟩ := gR_inv h
  refine ew_gR 6 3 d_XProver_countDeep_5 fl_XProver_36 av2 bv2 ?_
  obtain ⟨kM3, h⟩ := kO_inv h
  obtain ⟨M3, hM3, h⟩ := cV_inv h
  refine ew_callV 3 [.ref v2] d_XProver_countDeep_8 cv_XProver_145 (T_XNodes_spread hM3) kM3 (Nat.le_trans (Nat.le_of_ble_eq_true rfl) hn) (Nat.le_trans (Nat.le_of_ble_eq_true rfl) hl) (Nat.le_of_ble_eq_true rfl) rfl rfl ?_
  refine ew_iconst (0) d_XProver_countDeep_11 (by decide) ?_
  refine ew_istore_n (L' := [(0, .ref l0), (1, .ref l1), (2, .int (0 : Int32))]) 2 [1, 2, 0] d_XProver_countDeep_12 rfl (by decide) rfl ?_
  exact E_XProver_countDeep_13 hn hl n l0 l1 (0 : Int32) M3 h
theorem T_XProver_countDeep {n : Nat} {l0 : Nat} {l1 : Nat} {M Mf : PM} {res : qRs} (h : F_XProver_countDeep n l0 l1 M = some (res, Mf)) : CT Y_XProver_countDeep 3 65 [.ref l0, .ref l1] M res Mf :=
  CT_of (by decide) (Nat.le_of_ble_eq_true rfl) (qHd_ne (by decide)) (fun g X ad0 => E_XProver_countDeep (g := g) (X := X) (Z := (ad0, M, res, Mf, 3, 65)) (Nat.le_refl _) (Nat.le_refl _) h)
theorem d_XQuestion_addClaim_0 : decode Y_XQuestion_addClaim.2.1 0 = .ok (.iload_n 1, 1) := by decide +kernel
theorem d_XQuestion_addClaim_1 : decode Y_XQuestion_addClaim.2.1 1 = .ok (.ifCond .le (45), 3) := by decide +kernel
theorem d_XQuestion_addClaim_4 : decode Y_XQuestion_addClaim.2.1 4 = .ok (.aload_n 0, 1) := by decide +kernel
theorem d_XQuestion_addClaim_5 : decode Y_XQuestion_addClaim.2.1 5 = .ok (.getfield 25, 3) := by decide +kernel
theorem d_XQuestion_addClaim_8 : decode Y_XQuestion_addClaim.2.1 8 = .ok (.aload_n 0, 1) := by decide +kernel
theorem d_XQuestion_addClaim_9 : decode Y_XQuestion_addClaim.2.1 9 = .ok (.getfield 15, 3) := by decide +kernel
theorem d_XQuestion_addClaim_12 : decode Y_XQuestion_addClaim.2.1 12 = .ok (.arraylength, 1) := by decide +kernel
theorem d_XQuestion_addClaim_13 : decode Y_XQuestion_addClaim.2.1 13 = .ok (.if_icmp .ge (33), 3) := by decide +kernel
theorem d_XQuestion_addClaim_16 : decode Y_XQuestion_addClaim.2.1 16 = .ok (.aload_n 0, 1) := by decide +kernel
theorem d_XQuestion_addClaim_17 : decode Y_XQuestion_addClaim.2.1 17 = .ok (.getfield 15, 3) := by decide +kernel
theorem d_XQuestion_addClaim_20 : decode Y_XQuestion_addClaim.2.1 20 = .ok (.aload_n 0, 1) := by decide +kernel
theorem d_XQuestion_addClaim_21 : decode Y_XQuestion_addClaim.2.1 21 = .ok (.getfield 25, 3) := by decide +kernel
theorem d_XQuestion_addClaim_24 : decode Y_XQuestion_addClaim.2.1 24 = .ok (.iload_n 1, 1) := by decide +kernel
theorem d_XQuestion_addClaim_25 : decode Y_XQuestion_addClaim.2.1 25 = .ok (.iastore, 1) := by decide +kernel
theorem d_XQuestion_addClaim_26 : decode Y_XQuestion_addClaim.2.1 26 = .ok (.aload_n 0, 1) := by decide +kernel
theorem d_XQuestion_addClaim_27 : decode Y_XQuestion_addClaim.2.1 27 = .ok (.getfield 18, 3) := by decide +kernel
theorem d_XQuestion_addClaim_30 : decode Y_XQuestion_addClaim.2.1 30 = .ok (.aload_n 0, 1) := by decide +kernel
theorem d_XQuestion_addClaim_31 : decode Y_XQuestion_addClaim.2.1 31 = .ok (.getfield 25, 3) := by decide +kernel
theorem d_XQuestion_addClaim_34 : decode Y_XQuestion_addClaim.2.1 34 = .ok (.iload_n 2, 1) := by decide +kernel
theorem d_XQuestion_addClaim_35 : decode Y_XQuestion_addClaim.2.1 35 = .ok (.iastore, 1) := by decide +kernel
theorem d_XQuestion_addClaim_36 : decode Y_XQuestion_addClaim.2.1 36 = .ok (.aload_n 0, 1) := by decide +kernel
theorem d_XQuestion_addClaim_37 : decode Y_XQuestion_addClaim.2.1 37 = .ok (.dup, 1) := by decide +kernel
theorem d_XQuestion_addClaim_38 : decode Y_XQuestion_addClaim.2.1 38 = .ok (.getfield 25, 3) := by decide +kernel
theorem d_XQuestion_addClaim_41 : decode Y_XQuestion_addClaim.2.1 41 = .ok (.iconst 1, 1) := by decide +kernel
theorem d_XQuestion_addClaim_42 : decode Y_XQuestion_addClaim.2.1 42 = .ok (.iadd, 1) := by decide +kernel
theorem d_XQuestion_addClaim_43 : decode Y_XQuestion_addClaim.2.1 43 = .ok (.putfield 25, 3) := by decide +kernel
theorem d_XQuestion_addClaim_46 : decode Y_XQuestion_addClaim.2.1 46 = .ok (.return_, 1) := by decide +kernel
def F_XQuestion_addClaim_46 (n : Nat) (M : PM) : qO :=
  some (.inl none, M)
set_option maxHeartbeats 4000000 in
set_option maxRecDepth 100000 in
theorem E_XQuestion_addClaim_46 {g : qG} {X : qX} {Z : qZ} (hn : 0 ≤ zn Z) (hl : 0 ≤ zl Z) {n : Nat} {M : PM} (h : F_XQuestion_addClaim_46 n M = some (zr Z, zf Z)) : EW Y_XQuestion_addClaim g X Z 46 [] [] M := by
  unfold F_XQuestion_addClaim_46 at h
  obtain ⟨hz, hm⟩ := Prod.mk.inj (Option.some.inj h)
  exact ew_return d_XQuestion_addClaim_46 rfl hz.symm hm.symm
def F_XQuestion_addClaim (n : Nat) (l0 : Nat) (l1 : Int32) (l2 : Int32) (M : PM) : qO :=
  if l1 ≤ (0 : Int32) then
    F_XQuestion_addClaim_46 n M
  else
    gI 7 M l0 4 (fun v2 =>
    gR 7 M l0 1 (fun v3 =>
    aL M v3 (fun v4 =>
    if v4 ≤ v2 then
      F_XQuestion_addClaim_46 n M
    else
      gR 7 M l0 1 (fun v6 =>
      gI 7 M l0 4 (fun v7 =>
      wI M v6 v7 l1 (fun M8 =>
      gR 7 M8 l0 2 (fun v9 =>
      gI 7 M8 l0 4 (fun v10 =>
      wI M8 v9 v10 l2 (fun M11 =>
      gI 7 M11 l0 4 (fun v12 =>
      pF 7 M11 l0 4 (.int (v12 + (1 : Int32))) (fun M13 =>
      F_XQuestion_addClaim_46 n M13)))))))))))
set_option maxHeartbeats 4000000 in
set_option maxRecDepth 100000 in
theorem E_XQuestion_addClaim {g : qG} {X : qX} {Z : qZ} (hn : 0 ≤ zn Z) (hl : 0 ≤ zl Z) {n : Nat} {l0 : Nat} {l1 : Int32} {l2 : Int32} {M : PM} (h : F_XQuestion_addClaim n l0 l1 l2 M = some (zr Z, zf Z)) : EW Y_XQuestion_addClaim g X Z 0 [(0, .ref l0), (1, .int l1), (2, .int l2)] [] M := by
  unfold F_XQuestion_addClaim at h
  refine ew_iload_n 1 d_XQuestion_addClaim_0 rfl rfl ?_
  refine ew_if_le 46 d_XQuestion_addClaim_1 (by decide) (fun c1 => ?_) (fun c1 => ?_)
  · rw [if_pos c1] at h
    exact ew_pick (L' := []) [] rfl (E_XQuestion_addClaim_46 hn hl h)
  · rw [if_neg c1] at h
    refine ew_aload_n 0 d_XQuestion_addClaim_4 rfl rfl ?_
    obtain ⟨v2, av2, bv2, h⟩ := gI_inv h
    refine ew_gI 7 4 d_XQuestion_addClaim_5 fl_XQuestion_25 av2 bv2 ?_
    refine ew_aload_n 0 d_XQuestion_addClaim_8 rfl rfl ?_
    obtain ⟨v3, av3, bv3, h⟩ := gR_inv h
    refine ew_gR 7 1 d_XQuestion_addClaim_9 fl_XQuestion_15 av3 bv3 ?_
    obtain ⟨v4, av4, ev4, h⟩ := aL_inv h
    refine ew_aL d_XQuestion_addClaim_12 av4 ev4 ?_
    refine ew_icmp_ge 46 d_XQuestion_addClaim_13 (by decide) (fun c5 => ?_) (fun c5 => ?_)
    · rw [if_pos c5] at h
      exact ew_pick (L' := []) [] rfl (E_XQuestion_addClaim_46 hn hl h)
    · rw [if_neg c5] at h
      refine ew_aload_n 0 d_XQuestion_addClaim_16 rfl rfl ?_
      obtain ⟨v6, av6, bv6, h⟩ := gR_inv h
      refine ew_gR 7 1 d_XQuestion_addClaim_17 fl_XQuestion_15 av6 bv6 ?_
      refine ew_aload_n 0 d_XQuestion_addClaim_20 rfl rfl ?_
      obtain ⟨v7, av7, bv7, h⟩ := gI_inv h
      refine ew_gI 7 4 d_XQuestion_addClaim_21 fl_XQuestion_25 av7 bv7 ?_
      refine ew_iload_n 1 d_XQuestion_addClaim_24 rfl rfl ?_
      obtain ⟨M8, aM8, bM8, cM8, eM8, h⟩ := wI_inv h
      refine ew_wI d_XQuestion_addClaim_25 aM8 bM8 cM8 eM8 ?_
      refine ew_aload_n 0 d_XQuestion_addClaim_26 rfl rfl ?_
      obtain ⟨v9, av9, bv9, h⟩ := gR_inv h
      refine ew_gR 7 2 d_XQuestion_addClaim_27 fl_XQuestion_18 av9 bv9 ?_
      refine ew_aload_n 0 d_XQuestion_addClaim_30 rfl rfl ?_
      obtain ⟨v10, av10, bv10, h⟩ := gI_inv h
      refine ew_gI 7 4 d_XQuestion_addClaim_31 fl_XQuestion_25 av10 bv10 ?_
      refine ew_iload_n 2 d_XQuestion_addClaim_34 rfl rfl ?_
      obtain ⟨M11, aM11, bM11, cM11, eM11, h⟩ := wI_inv h
      refine ew_wI d_XQuestion_addClaim_35 aM11 bM11 cM11 eM11 ?_
      refine ew_aload_n 0 d_XQuestion_addClaim_36 rfl rfl ?_
      refine ew_dup d_XQuestion_addClaim_37 rfl ?_
      obtain ⟨v12, av12, bv12, h⟩ := gI_inv h
      refine ew_gI 7 4 d_XQuestion_addClaim_38 fl_XQuestion_25 av12 bv12 ?_
      refine ew_iconst (1) d_XQuestion_addClaim_41 (by decide) ?_
      refine ew_iadd d_XQuestion_addClaim_42 ?_
      obtain ⟨M13, aM13, eM13, h⟩ := pF_inv h
      refine ew_pF 7 4 d_XQuestion_addClaim_43 fl_XQuestion_25 aM13 eM13 (fun ad => ⟨rfl, rfl⟩) ?_
      exact ew_pick (L' := []) [] rfl (E_XQuestion_addClaim_46 hn hl h)
theorem T_XQuestion_addClaim {n : Nat} {l0 : Nat} {l1 : Int32} {l2 : Int32} {M Mf : PM} {res : qRs} (h : F_XQuestion_addClaim n l0 l1 l2 M = some (res, Mf)) : CT Y_XQuestion_addClaim 0 0 [.ref l0, .int l1, .int l2] M res Mf :=
  CT_of (by decide) (Nat.le_of_ble_eq_true rfl) (qHd_ne (by decide)) (fun g X ad0 => E_XQuestion_addClaim (g := g) (X := X) (Z := (ad0, M, res, Mf, 0, 0)) (Nat.le_refl _) (Nat.le_refl _) h)
theorem d_XProver_askEquation_0 : decode Y_XProver_askEquation.2.1 0 = .ok (.aload_n 3, 1) := by decide +kernel
theorem d_XProver_askEquation_1 : decode Y_XProver_askEquation.2.1 1 = .ok (.aload_n 1, 1) := by decide +kernel
theorem d_XProver_askEquation_2 : decode Y_XProver_askEquation.2.1 2 = .ok (.getfield 50, 3) := by decide +kernel
theorem d_XProver_askEquation_5 : decode Y_XProver_askEquation.2.1 5 = .ok (.iconst 1, 1) := by decide +kernel
theorem d_XProver_askEquation_6 : decode Y_XProver_askEquation.2.1 6 = .ok (.invokevirtual 56, 3) := by decide +kernel
theorem d_XProver_askEquation_9 : decode Y_XProver_askEquation.2.1 9 = .ok (.aload_n 0, 1) := by decide +kernel
theorem d_XProver_askEquation_10 : decode Y_XProver_askEquation.2.1 10 = .ok (.aload_n 1, 1) := by decide +kernel
theorem d_XProver_askEquation_11 : decode Y_XProver_askEquation.2.1 11 = .ok (.invokevirtual 61, 3) := by decide +kernel
theorem d_XProver_askEquation_14 : decode Y_XProver_askEquation.2.1 14 = .ok (.aload_n 0, 1) := by decide +kernel
theorem d_XProver_askEquation_15 : decode Y_XProver_askEquation.2.1 15 = .ok (.aload_n 1, 1) := by decide +kernel
theorem d_XProver_askEquation_16 : decode Y_XProver_askEquation.2.1 16 = .ok (.aload_n 0, 1) := by decide +kernel
theorem d_XProver_askEquation_17 : decode Y_XProver_askEquation.2.1 17 = .ok (.getfield 44, 3) := by decide +kernel
theorem d_XProver_askEquation_20 : decode Y_XProver_askEquation.2.1 20 = .ok (.iconst 1, 1) := by decide +kernel
theorem d_XProver_askEquation_21 : decode Y_XProver_askEquation.2.1 21 = .ok (.invokevirtual 64, 3) := by decide +kernel
theorem d_XProver_askEquation_24 : decode Y_XProver_askEquation.2.1 24 = .ok (.iconst 0, 1) := by decide +kernel
theorem d_XProver_askEquation_25 : decode Y_XProver_askEquation.2.1 25 = .ok (.istore 4, 2) := by decide +kernel
theorem d_XProver_askEquation_27 : decode Y_XProver_askEquation.2.1 27 = .ok (.iload 4, 2) := by decide +kernel
theorem d_XProver_askEquation_29 : decode Y_XProver_askEquation.2.1 29 = .ok (.iload_n 2, 1) := by decide +kernel
theorem d_XProver_askEquation_30 : decode Y_XProver_askEquation.2.1 30 = .ok (.if_icmp .ge (29), 3) := by decide +kernel
theorem d_XProver_askEquation_33 : decode Y_XProver_askEquation.2.1 33 = .ok (.aload_n 0, 1) := by decide +kernel
theorem d_XProver_askEquation_34 : decode Y_XProver_askEquation.2.1 34 = .ok (.aload_n 1, 1) := by decide +kernel
theorem d_XProver_askEquation_35 : decode Y_XProver_askEquation.2.1 35 = .ok (.aload_n 0, 1) := by decide +kernel
theorem d_XProver_askEquation_36 : decode Y_XProver_askEquation.2.1 36 = .ok (.getfield 44, 3) := by decide +kernel
theorem d_XProver_askEquation_39 : decode Y_XProver_askEquation.2.1 39 = .ok (.iconst 0, 1) := by decide +kernel
theorem d_XProver_askEquation_40 : decode Y_XProver_askEquation.2.1 40 = .ok (.invokevirtual 64, 3) := by decide +kernel
theorem d_XProver_askEquation_43 : decode Y_XProver_askEquation.2.1 43 = .ok (.aload_n 0, 1) := by decide +kernel
theorem d_XProver_askEquation_44 : decode Y_XProver_askEquation.2.1 44 = .ok (.aload_n 1, 1) := by decide +kernel
theorem d_XProver_askEquation_45 : decode Y_XProver_askEquation.2.1 45 = .ok (.aload_n 0, 1) := by decide +kernel
theorem d_XProver_askEquation_46 : decode Y_XProver_askEquation.2.1 46 = .ok (.getfield 47, 3) := by decide +kernel
theorem d_XProver_askEquation_49 : decode Y_XProver_askEquation.2.1 49 = .ok (.iconst 0, 1) := by decide +kernel
theorem d_XProver_askEquation_50 : decode Y_XProver_askEquation.2.1 50 = .ok (.invokevirtual 64, 3) := by decide +kernel
theorem d_XProver_askEquation_53 : decode Y_XProver_askEquation.2.1 53 = .ok (.iinc 4 (1), 3) := by decide +kernel
theorem d_XProver_askEquation_56 : decode Y_XProver_askEquation.2.1 56 = .ok (.goto (-29), 3) := by decide +kernel
theorem d_XProver_askEquation_59 : decode Y_XProver_askEquation.2.1 59 = .ok (.aload_n 0, 1) := by decide +kernel
theorem d_XProver_askEquation_60 : decode Y_XProver_askEquation.2.1 60 = .ok (.aload_n 1, 1) := by decide +kernel
theorem d_XProver_askEquation_61 : decode Y_XProver_askEquation.2.1 61 = .ok (.aload_n 0, 1) := by decide +kernel
theorem d_XProver_askEquation_62 : decode Y_XProver_askEquation.2.1 62 = .ok (.getfield 47, 3) := by decide +kernel
theorem d_XProver_askEquation_65 : decode Y_XProver_askEquation.2.1 65 = .ok (.invokevirtual 68, 3) := by decide +kernel
theorem d_XProver_askEquation_68 : decode Y_XProver_askEquation.2.1 68 = .ok (.aload_n 0, 1) := by decide +kernel
theorem d_XProver_askEquation_69 : decode Y_XProver_askEquation.2.1 69 = .ok (.invokevirtual 72, 3) := by decide +kernel
theorem d_XProver_askEquation_72 : decode Y_XProver_askEquation.2.1 72 = .ok (.iconst 0, 1) := by decide +kernel
theorem d_XProver_askEquation_73 : decode Y_XProver_askEquation.2.1 73 = .ok (.istore 4, 2) := by decide +kernel
theorem d_XProver_askEquation_75 : decode Y_XProver_askEquation.2.1 75 = .ok (.iload 4, 2) := by decide +kernel
theorem d_XProver_askEquation_77 : decode Y_XProver_askEquation.2.1 77 = .ok (.aload_n 1, 1) := by decide +kernel
theorem d_XProver_askEquation_78 : decode Y_XProver_askEquation.2.1 78 = .ok (.getfield 50, 3) := by decide +kernel
theorem d_XProver_askEquation_81 : decode Y_XProver_askEquation.2.1 81 = .ok (.if_icmp .ge (56), 3) := by decide +kernel
theorem d_XProver_askEquation_84 : decode Y_XProver_askEquation.2.1 84 = .ok (.aload_n 1, 1) := by decide +kernel
theorem d_XProver_askEquation_85 : decode Y_XProver_askEquation.2.1 85 = .ok (.getfield 75, 3) := by decide +kernel
theorem d_XProver_askEquation_88 : decode Y_XProver_askEquation.2.1 88 = .ok (.iload 4, 2) := by decide +kernel
theorem d_XProver_askEquation_90 : decode Y_XProver_askEquation.2.1 90 = .ok (.iaload, 1) := by decide +kernel
theorem d_XProver_askEquation_91 : decode Y_XProver_askEquation.2.1 91 = .ok (.iconst (-1), 1) := by decide +kernel
theorem d_XProver_askEquation_92 : decode Y_XProver_askEquation.2.1 92 = .ok (.if_icmp .eq (39), 3) := by decide +kernel
theorem d_XProver_askEquation_95 : decode Y_XProver_askEquation.2.1 95 = .ok (.aload_n 0, 1) := by decide +kernel
theorem d_XProver_askEquation_96 : decode Y_XProver_askEquation.2.1 96 = .ok (.getfield 14, 3) := by decide +kernel
theorem d_XProver_askEquation_99 : decode Y_XProver_askEquation.2.1 99 = .ok (.aload_n 0, 1) := by decide +kernel
theorem d_XProver_askEquation_100 : decode Y_XProver_askEquation.2.1 100 = .ok (.getfield 36, 3) := by decide +kernel
theorem d_XProver_askEquation_103 : decode Y_XProver_askEquation.2.1 103 = .ok (.aload_n 0, 1) := by decide +kernel
theorem d_XProver_askEquation_104 : decode Y_XProver_askEquation.2.1 104 = .ok (.getfield 44, 3) := by decide +kernel
theorem d_XProver_askEquation_107 : decode Y_XProver_askEquation.2.1 107 = .ok (.iload 4, 2) := by decide +kernel
theorem d_XProver_askEquation_109 : decode Y_XProver_askEquation.2.1 109 = .ok (.iaload, 1) := by decide +kernel
theorem d_XProver_askEquation_110 : decode Y_XProver_askEquation.2.1 110 = .ok (.invokevirtual 78, 3) := by decide +kernel
theorem d_XProver_askEquation_113 : decode Y_XProver_askEquation.2.1 113 = .ok (.aload_n 0, 1) := by decide +kernel
theorem d_XProver_askEquation_114 : decode Y_XProver_askEquation.2.1 114 = .ok (.getfield 14, 3) := by decide +kernel
theorem d_XProver_askEquation_117 : decode Y_XProver_askEquation.2.1 117 = .ok (.aload_n 0, 1) := by decide +kernel
theorem d_XProver_askEquation_118 : decode Y_XProver_askEquation.2.1 118 = .ok (.getfield 36, 3) := by decide +kernel
theorem d_XProver_askEquation_121 : decode Y_XProver_askEquation.2.1 121 = .ok (.aload_n 0, 1) := by decide +kernel
theorem d_XProver_askEquation_122 : decode Y_XProver_askEquation.2.1 122 = .ok (.getfield 47, 3) := by decide +kernel
theorem d_XProver_askEquation_125 : decode Y_XProver_askEquation.2.1 125 = .ok (.iload 4, 2) := by decide +kernel
theorem d_XProver_askEquation_127 : decode Y_XProver_askEquation.2.1 127 = .ok (.iaload, 1) := by decide +kernel
theorem d_XProver_askEquation_128 : decode Y_XProver_askEquation.2.1 128 = .ok (.invokevirtual 78, 3) := by decide +kernel
theorem d_XProver_askEquation_131 : decode Y_XProver_askEquation.2.1 131 = .ok (.iinc 4 (1), 3) := by decide +kernel
theorem d_XProver_askEquation_134 : decode Y_XProver_askEquation.2.1 134 = .ok (.goto (-59), 3) := by decide +kernel
theorem d_XProver_askEquation_137 : decode Y_XProver_askEquation.2.1 137 = .ok (.aload_n 0, 1) := by decide +kernel
theorem d_XProver_askEquation_138 : decode Y_XProver_askEquation.2.1 138 = .ok (.aload_n 3, 1) := by decide +kernel
theorem d_XProver_askEquation_139 : decode Y_XProver_askEquation.2.1 139 = .ok (.invokevirtual 82, 3) := by decide +kernel
theorem d_XProver_askEquation_142 : decode Y_XProver_askEquation.2.1 142 = .ok (.iconst 0, 1) := by decide +kernel
theorem d_XProver_askEquation_143 : decode Y_XProver_askEquation.2.1 143 = .ok (.istore 4, 2) := by decide +kernel
theorem d_XProver_askEquation_145 : decode Y_XProver_askEquation.2.1 145 = .ok (.iload 4, 2) := by decide +kernel
theorem d_XProver_askEquation_147 : decode Y_XProver_askEquation.2.1 147 = .ok (.aload_n 1, 1) := by decide +kernel
theorem d_XProver_askEquation_148 : decode Y_XProver_askEquation.2.1 148 = .ok (.getfield 50, 3) := by decide +kernel
theorem d_XProver_askEquation_151 : decode Y_XProver_askEquation.2.1 151 = .ok (.if_icmp .ge (50), 3) := by decide +kernel
theorem d_XProver_askEquation_154 : decode Y_XProver_askEquation.2.1 154 = .ok (.aload_n 1, 1) := by decide +kernel
theorem d_XProver_askEquation_155 : decode Y_XProver_askEquation.2.1 155 = .ok (.getfield 75, 3) := by decide +kernel
theorem d_XProver_askEquation_158 : decode Y_XProver_askEquation.2.1 158 = .ok (.iload 4, 2) := by decide +kernel
theorem d_XProver_askEquation_160 : decode Y_XProver_askEquation.2.1 160 = .ok (.iaload, 1) := by decide +kernel
theorem d_XProver_askEquation_161 : decode Y_XProver_askEquation.2.1 161 = .ok (.iconst (-1), 1) := by decide +kernel
theorem d_XProver_askEquation_162 : decode Y_XProver_askEquation.2.1 162 = .ok (.if_icmp .eq (33), 3) := by decide +kernel
theorem d_XProver_askEquation_165 : decode Y_XProver_askEquation.2.1 165 = .ok (.aload_n 0, 1) := by decide +kernel
theorem d_XProver_askEquation_166 : decode Y_XProver_askEquation.2.1 166 = .ok (.getfield 23, 3) := by decide +kernel
theorem d_XProver_askEquation_169 : decode Y_XProver_askEquation.2.1 169 = .ok (.aload_n 0, 1) := by decide +kernel
theorem d_XProver_askEquation_170 : decode Y_XProver_askEquation.2.1 170 = .ok (.getfield 14, 3) := by decide +kernel
theorem d_XProver_askEquation_173 : decode Y_XProver_askEquation.2.1 173 = .ok (.aload_n 0, 1) := by decide +kernel
theorem d_XProver_askEquation_174 : decode Y_XProver_askEquation.2.1 174 = .ok (.getfield 44, 3) := by decide +kernel
theorem d_XProver_askEquation_177 : decode Y_XProver_askEquation.2.1 177 = .ok (.iload 4, 2) := by decide +kernel
theorem d_XProver_askEquation_179 : decode Y_XProver_askEquation.2.1 179 = .ok (.iaload, 1) := by decide +kernel
theorem d_XProver_askEquation_180 : decode Y_XProver_askEquation.2.1 180 = .ok (.aload_n 0, 1) := by decide +kernel
theorem d_XProver_askEquation_181 : decode Y_XProver_askEquation.2.1 181 = .ok (.getfield 47, 3) := by decide +kernel
theorem d_XProver_askEquation_184 : decode Y_XProver_askEquation.2.1 184 = .ok (.iload 4, 2) := by decide +kernel
theorem d_XProver_askEquation_186 : decode Y_XProver_askEquation.2.1 186 = .ok (.iaload, 1) := by decide +kernel
theorem d_XProver_askEquation_187 : decode Y_XProver_askEquation.2.1 187 = .ok (.invokevirtual 86, 3) := by decide +kernel
theorem d_XProver_askEquation_190 : decode Y_XProver_askEquation.2.1 190 = .ok (.iload 4, 2) := by decide +kernel
theorem d_XProver_askEquation_192 : decode Y_XProver_askEquation.2.1 192 = .ok (.invokevirtual 90, 3) := by decide +kernel
theorem d_XProver_askEquation_195 : decode Y_XProver_askEquation.2.1 195 = .ok (.iinc 4 (1), 3) := by decide +kernel
theorem d_XProver_askEquation_198 : decode Y_XProver_askEquation.2.1 198 = .ok (.goto (-53), 3) := by decide +kernel
theorem d_XProver_askEquation_201 : decode Y_XProver_askEquation.2.1 201 = .ok (.return_, 1) := by decide +kernel
def F_XProver_askEquation_131 (n : Nat) (rec75 : Nat → Nat → Nat → Int32 → PM → qO) (l0 : Nat) (l1 : Nat) (l3 : Nat) (l4 : Int32) (M : PM) : qO :=
  bI (l4 + (1 : Int32)) (fun v1 =>
  rec75 l0 l1 l3 v1 M)
set_option maxHeartbeats 4000000 in
set_option maxRecDepth 100000 in
theorem E_XProver_askEquation_131 {g : qG} {X : qX} {Z : qZ} (hn : 5 ≤ zn Z) (hl : 120 ≤ zl Z) {n : Nat} {rec75 : Nat → Nat → Nat → Int32 → PM → qO} (hrec75 : ∀ (l0 : Nat) (l1 : Nat) (l3 : Nat) (l4 : Int32) (M : PM), rec75 l0 l1 l3 l4 M = some (zr Z, zf Z) → EW Y_XProver_askEquation g X Z 75 [(0, .ref l0), (1, .ref l1), (3, .ref l3), (4, .int l4)] [] M) {l0 : Nat} {l1 : Nat} {l3 : Nat} {l4 : Int32} {M : PM} (h : F_XProver_askEquation_131 n rec75 l0 l1 l3 l4 M = some (zr Z, zf Z)) : EW Y_XProver_askEquation g X Z 131 [(0, .ref l0), (1, .ref l1), (3, .ref l3), (4, .int l4)] [] M := by
  unfold F_XProver_askEquation_131 at h
  obtain ⟨v1, ev1, h⟩ := bI_inv h
  refine ew_iinc (L' := [(0, .ref l0), (1, .ref l1), (3, .ref l3), (4, .int v1)]) v1 [1, 2, 3, 0] d_XProver_askEquation_131 rfl (by rw [ev1]; rfl) (by decide) rfl ?_
  refine ew_goto 75 d_XProver_askEquation_134 (by decide) ?_
  exact hrec75 l0 l1 l3 v1 M h
def F_XProver_askEquation_195 (n : Nat) (rec145 : Nat → Nat → Int32 → PM → qO) (l0 : Nat) (l1 : Nat) (l4 : Int32) (M : PM) : qO :=
  bI (l4 + (1 : Int32)) (fun v1 =>
  rec145 l0 l1 v1 M)
set_option maxHeartbeats 4000000 in
set_option maxRecDepth 100000 in
theorem E_XProver_askEquation_195 {g : qG} {X : qX} {Z : qZ} (hn : 5 ≤ zn Z) (hl : 120 ≤ zl Z) {n : Nat} {rec145 : Nat → Nat → Int32 → PM → qO} (hrec145 : ∀ (l0 : Nat) (l1 : Nat) (l4 : Int32) (M : PM), rec145 l0 l1 l4 M = some (zr Z, zf Z) → EW Y_XProver_askEquation g X Z 145 [(0, .ref l0), (1, .ref l1), (4, .int l4)] [] M) {l0 : Nat} {l1 : Nat} {l4 : Int32} {M : PM} (h : F_XProver_askEquation_195 n rec145 l0 l1 l4 M = some (zr Z, zf Z)) : EW Y_XProver_askEquation g X Z 195 [(0, .ref l0), (1, .ref l1), (4, .int l4)] [] M := by
  unfold F_XProver_askEquation_195 at h
  obtain ⟨v1, ev1, h⟩ := bI_inv h
  refine ew_iinc (L' := [(0, .ref l0), (1, .ref l1), (4, .int v1)]) v1 [1, 2, 0] d_XProver_askEquation_195 rfl (by rw [ev1]; rfl) (by decide) rfl ?_
  refine ew_goto 145 d_XProver_askEquation_198 (by decide) ?_
  exact hrec145 l0 l1 v1 M h
def F_XProver_askEquation_145 (n : Nat) : Nat → Nat → Nat → Int32 → PM → qO
  | 0, _, _, _, _ => none
  | f + 1, l0, l1, l4, M =>
    gI 2 M l1 6 (fun v1 =>
    if v1 ≤ l4 then
      some (.inl none, M)
    else
      gR 2 M l1 3 (fun v3 =>
      lI M v3 l4 (fun v4 =>
      if v4 = (-1 : Int32) then
        F_XProver_askEquation_195 n (F_XProver_askEquation_145 n f) l0 l1 l4 M
      else
        gR 6 M l0 1 (fun v6 =>
        gR 6 M l0 0 (fun v7 =>
        gR 6 M l0 5 (fun v8 =>
        lI M v8 l4 (fun v9 =>
        gR 6 M l0 6 (fun v10 =>
        lI M v10 l4 (fun v11 =>
        kO 3 M v7 (
        cI (F_XNodes_makeDifference n v7 v9 v11 M) (fun v13 M12 =>
        kO 7 M12 v6 (
        cV (F_XQuestion_addClaim n v6 v13 l4 M12) (fun M14 =>
        F_XProver_askEquation_195 n (F_XProver_askEquation_145 n f) l0 l1 l4 M14)))))))))))))
set_option maxHeartbeats 4000000 in
set_option maxRecDepth 100000 in
theorem E_XProver_askEquation_145 {g : qG} {X : qX} {Z : qZ} (hn : 5 ≤ zn Z) (hl : 120 ≤ zl Z) {n : Nat} : ∀ (f : Nat) (l0 : Nat) (l1 : Nat) (l4 : Int32) (M : PM), F_XProver_askEquation_145 n f l0 l1 l4 M = some (zr Z, zf Z) → EW Y_XProver_askEquation g X Z 145 [(0, .ref l0), (1, .ref l1), (4, .int l4)] [] M := by
  intro f
  induction f with
  | zero => intro l0 l1 l4 M h; rw [F_XProver_askEquation_145] at h; cases h
  | succ f ih =>
    intro l0 l1 l4 M h
    rw [F_XProver_askEquation_145] at h
    refine ew_iload d_XProver_askEquation_145 rfl ?_
    refine ew_aload_n 1 d_XProver_askEquation_147 rfl rfl ?_
    obtain ⟨v1, av1, bv1, h⟩ := gI_inv h
    refine ew_gI 2 6 d_XProver_askEquation_148 fl_XProver_50 av1 bv1 ?_
    refine ew_icmp_ge 201 d_XProver_askEquation_151 (by decide) (fun c2 => ?_) (fun c2 => ?_)
    · rw [if_pos c2] at h
      obtain ⟨hz, hm⟩ := Prod.mk.inj (Option.some.inj h)
      exact ew_return d_XProver_askEquation_201 rfl hz.symm hm.symm
    · rw [if_neg c2] at h
      refine ew_aload_n 1 d_XProver_askEquation_154 rfl rfl ?_
      obtain ⟨v3, av3, bv3, h⟩ := gR_inv h
      refine ew_gR 2 3 d_XProver_askEquation_155 fl_XProver_75 av3 bv3 ?_
      refine ew_iload d_XProver_askEquation_158 rfl ?_
      obtain ⟨v4, av4, bv4, cv4, ev4, h⟩ := lI_inv h
      refine ew_lI d_XProver_askEquation_160 av4 bv4 cv4 ev4 ?_
      refine ew_iconst (-1) d_XProver_askEquation_161 (by decide) ?_
      refine ew_icmp_eq 195 d_XProver_askEquation_162 (by decide) (fun c5 => ?_) (fun c5 => ?_)
      · rw [if_pos c5] at h
        exact E_XProver_askEquation_195 hn hl ih h
      · rw [if_neg c5] at h
        refine ew_aload_n 0 d_XProver_askEquation_165 rfl rfl ?_
        obtain ⟨v6, av6, bv6, h⟩ := gR_inv h
        refine ew_gR 6 1 d_XProver_askEquation_166 fl_XProver_23 av6 bv6 ?_
        refine ew_aload_n 0 d_XProver_askEquation_169 rfl rfl ?_
        obtain ⟨v7, av7, bv7, h⟩ := gR_inv h
        refine ew_gR 6 0 d_XProver_askEquation_170 fl_XProver_14 av7 bv7 ?_
        refine ew_aload_n 0 d_XProver_askEquation_173 rfl rfl ?_
        obtain ⟨v8, av8, bv8, h⟩ := gR_inv h
        refine ew_gR 6 5 d_XProver_askEquation_174 fl_XProver_44 av8 bv8 ?_
        refine ew_iload d_XProver_askEquation_177 rfl ?_
        obtain ⟨v9, av9, bv9, cv9, ev9, h⟩ := lI_inv h
        refine ew_lI d_XProver_askEquation_179 av9 bv9 cv9 ev9 ?_
        refine ew_aload_n 0 d_XProver_askEquation_180 rfl rfl ?_
        obtain ⟨v10, av10, bv10, h⟩ := gR_inv h
        refine ew_gR 6 6 d_XProver_askEquation_181 fl_XProver_47 av10 bv10 ?_
        refine ew_iload d_XProver_askEquation_184 rfl ?_
        obtain ⟨v11, av11, bv11, cv11, ev11, h⟩ := lI_inv h
        refine ew_lI d_XProver_askEquation_186 av11 bv11 cv11 ev11 ?_
        obtain ⟨kM12, h⟩ := kO_inv h
        obtain ⟨v13, M12, hM12, h⟩ := cI_inv h
        refine ew_callV 3 [.int v9, .int v11] d_XProver_askEquation_187 cv_XProver_86 (T_XNodes_makeDifference hM12) kM12 (Nat.le_trans (Nat.le_of_ble_eq_true rfl) hn) (Nat.le_trans (Nat.le_of_ble_eq_true rfl) hl) (Nat.le_of_ble_eq_true rfl) rfl rfl ?_
        refine ew_iload d_XProver_askEquation_190 rfl ?_
        obtain ⟨kM14, h⟩ := kO_inv h
        obtain ⟨M14, hM14, h⟩ := cV_inv h
        refine ew_callV 7 [.int v13, .int l4] d_XProver_askEquation_192 cv_XProver_90 (T_XQuestion_addClaim hM14) kM14 (Nat.le_trans (Nat.le_of_ble_eq_true rfl) hn) (Nat.le_trans (Nat.le_of_ble_eq_true rfl) hl) (Nat.le_of_ble_eq_true rfl) rfl rfl ?_
        exact E_XProver_askEquation_195 hn hl ih h
def F_XProver_askEquation_75 (n : Nat) : Nat → Nat → Nat → Nat → Int32 → PM → qO
  | 0, _, _, _, _, _ => none
  | f + 1, l0, l1, l3, l4, M =>
    gI 2 M l1 6 (fun v1 =>
    if v1 ≤ l4 then
      kO 6 M l0 (
      cV (F_XProver_countDeep n l0 l3 M) (fun M3 =>
      F_XProver_askEquation_145 n n l0 l1 (0 : Int32) M3))
    else
      gR 2 M l1 3 (fun v4 =>
      lI M v4 l4 (fun v5 =>
      if v5 = (-1 : Int32) then
        F_XProver_askEquation_131 n (F_XProver_askEquation_75 n f) l0 l1 l3 l4 M
      else
        gR 6 M l0 0 (fun v7 =>
        gR 6 M l0 3 (fun v8 =>
        gR 6 M l0 5 (fun v9 =>
        lI M v9 l4 (fun v10 =>
        kO 3 M v7 (
        cV (F_XNodes_mark n v7 v8 v10 M) (fun M11 =>
        gR 6 M11 l0 0 (fun v12 =>
        gR 6 M11 l0 3 (fun v13 =>
        gR 6 M11 l0 6 (fun v14 =>
        lI M11 v14 l4 (fun v15 =>
        kO 3 M11 v12 (
        cV (F_XNodes_mark n v12 v13 v15 M11) (fun M16 =>
        F_XProver_askEquation_131 n (F_XProver_askEquation_75 n f) l0 l1 l3 l4 M16)))))))))))))))
set_option maxHeartbeats 4000000 in
set_option maxRecDepth 100000 in
theorem E_XProver_askEquation_75 {g : qG} {X : qX} {Z : qZ} (hn : 5 ≤ zn Z) (hl : 120 ≤ zl Z) {n : Nat} : ∀ (f : Nat) (l0 : Nat) (l1 : Nat) (l3 : Nat) (l4 : Int32) (M : PM), F_XProver_askEquation_75 n f l0 l1 l3 l4 M = some (zr Z, zf Z) → EW Y_XProver_askEquation g X Z 75 [(0, .ref l0), (1, .ref l1), (3, .ref l3), (4, .int l4)] [] M := by
  intro f
  induction f with
  | zero => intro l0 l1 l3 l4 M h; rw [F_XProver_askEquation_75] at h; cases h
  | succ f ih =>
    intro l0 l1 l3 l4 M h
    rw [F_XProver_askEquation_75] at h
    refine ew_iload d_XProver_askEquation_75 rfl ?_
    refine ew_aload_n 1 d_XProver_askEquation_77 rfl rfl ?_
    obtain ⟨v1, av1, bv1, h⟩ := gI_inv h
    refine ew_gI 2 6 d_XProver_askEquation_78 fl_XProver_50 av1 bv1 ?_
    refine ew_icmp_ge 137 d_XProver_askEquation_81 (by decide) (fun c2 => ?_) (fun c2 => ?_)
    · rw [if_pos c2] at h
      refine ew_aload_n 0 d_XProver_askEquation_137 rfl rfl ?_
      refine ew_aload_n 3 d_XProver_askEquation_138 rfl rfl ?_
      obtain ⟨kM3, h⟩ := kO_inv h
      obtain ⟨M3, hM3, h⟩ := cV_inv h
      refine ew_callV 6 [.ref l3] d_XProver_askEquation_139 cv_XProver_82 (T_XProver_countDeep hM3) kM3 (Nat.le_trans (Nat.le_of_ble_eq_true rfl) hn) (Nat.le_trans (Nat.le_of_ble_eq_true rfl) hl) (Nat.le_of_ble_eq_true rfl) rfl rfl ?_
      refine ew_iconst (0) d_XProver_askEquation_142 (by decide) ?_
      refine ew_istore (L' := [(0, .ref l0), (1, .ref l1), (3, .ref l3), (4, .int (0 : Int32))]) [1, 2, 3, 0] d_XProver_askEquation_143 (by decide) rfl ?_
      exact ew_pick (L' := [(0, .ref l0), (1, .ref l1), (4, .int (0 : Int32))]) [0, 1, 3] rfl (E_XProver_askEquation_145 hn hl n l0 l1 (0 : Int32) M3 h)
    · rw [if_neg c2] at h
      refine ew_aload_n 1 d_XProver_askEquation_84 rfl rfl ?_
      obtain ⟨v4, av4, bv4, h⟩ := gR_inv h
      refine ew_gR 2 3 d_XProver_askEquation_85 fl_XProver_75 av4 bv4 ?_
      refine ew_iload d_XProver_askEquation_88 rfl ?_
      obtain ⟨v5, av5, bv5, cv5, ev5, h⟩ := lI_inv h
      refine ew_lI d_XProver_askEquation_90 av5 bv5 cv5 ev5 ?_
      refine ew_iconst (-1) d_XProver_askEquation_91 (by decide) ?_
      refine ew_icmp_eq 131 d_XProver_askEquation_92 (by decide) (fun c6 => ?_) (fun c6 => ?_)
      · rw [if_pos c6] at h
        exact E_XProver_askEquation_131 hn hl ih h
      · rw [if_neg c6] at h
        refine ew_aload_n 0 d_XProver_askEquation_95 rfl rfl ?_
        obtain ⟨v7, av7, bv7, h⟩ := gR_inv h
        refine ew_gR 6 0 d_XProver_askEquation_96 fl_XProver_14 av7 bv7 ?_
        refine ew_aload_n 0 d_XProver_askEquation_99 rfl rfl ?_
        obtain ⟨v8, av8, bv8, h⟩ := gR_inv h
        refine ew_gR 6 3 d_XProver_askEquation_100 fl_XProver_36 av8 bv8 ?_
        refine ew_aload_n 0 d_XProver_askEquation_103 rfl rfl ?_
        obtain ⟨v9, av9, bv9, h⟩ := gR_inv h
        refine ew_gR 6 5 d_XProver_askEquation_104 fl_XProver_44 av9 bv9 ?_
        refine ew_iload d_XProver_askEquation_107 rfl ?_
        obtain ⟨v10, av10, bv10, cv10, ev10, h⟩ := lI_inv h
        refine ew_lI d_XProver_askEquation_109 av10 bv10 cv10 ev10 ?_
        obtain ⟨kM11, h⟩ := kO_inv h
        obtain ⟨M11, hM11, h⟩ := cV_inv h
        refine ew_callV 3 [.ref v8, .int v10] d_XProver_askEquation_110 cv_XProver_78 (T_XNodes_mark hM11) kM11 (Nat.le_trans (Nat.le_of_ble_eq_true rfl) hn) (Nat.le_trans (Nat.le_of_ble_eq_true rfl) hl) (Nat.le_of_ble_eq_true rfl) rfl rfl ?_
        refine ew_aload_n 0 d_XProver_askEquation_113 rfl rfl ?_
        obtain ⟨v12, av12, bv12, h⟩ := gR_inv h
        refine ew_gR 6 0 d_XProver_askEquation_114 fl_XProver_14 av12 bv12 ?_
        refine ew_aload_n 0 d_XProver_askEquation_117 rfl rfl ?_
        obtain ⟨v13, av13, bv13, h⟩ := gR_inv h
        refine ew_gR 6 3 d_XProver_askEquation_118 fl_XProver_36 av13 bv13 ?_
        refine ew_aload_n 0 d_XProver_askEquation_121 rfl rfl ?_
        obtain ⟨v14, av14, bv14, h⟩ := gR_inv h
        refine ew_gR 6 6 d_XProver_askEquation_122 fl_XProver_47 av14 bv14 ?_
        refine ew_iload d_XProver_askEquation_125 rfl ?_
        obtain ⟨v15, av15, bv15, cv15, ev15, h⟩ := lI_inv h
        refine ew_lI d_XProver_askEquation_127 av15 bv15 cv15 ev15 ?_
        obtain ⟨kM16, h⟩ := kO_inv h
        obtain ⟨M16, hM16, h⟩ := cV_inv h
        refine ew_callV 3 [.ref v13, .int v15] d_XProver_askEquation_128 cv_XProver_78 (T_XNodes_mark hM16) kM16 (Nat.le_trans (Nat.le_of_ble_eq_true rfl) hn) (Nat.le_trans (Nat.le_of_ble_eq_true rfl) hl) (Nat.le_of_ble_eq_true rfl) rfl rfl ?_
        exact E_XProver_askEquation_131 hn hl ih h
def F_XProver_askEquation_27 (n : Nat) : Nat → Nat → Nat → Int32 → Nat → Int32 → PM → qO
  | 0, _, _, _, _, _, _ => none
  | f + 1, l0, l1, l2, l3, l4, M =>
    if l2 ≤ l4 then
      gR 6 M l0 6 (fun v2 =>
      kO 6 M l0 (
      cV (F_XProver_plainStep n l0 l1 v2 M) (fun M3 =>
      kO 6 M3 l0 (
      cV (F_XProver_markInvariants n l0 M3) (fun M4 =>
      F_XProver_askEquation_75 n n l0 l1 l3 (0 : Int32) M4)))))
    else
      gR 6 M l0 5 (fun v5 =>
      kO 6 M l0 (
      cV (F_XProver_step n l0 l1 v5 (0 : Int32) M) (fun M6 =>
      gR 6 M6 l0 6 (fun v7 =>
      kO 6 M6 l0 (
      cV (F_XProver_step n l0 l1 v7 (0 : Int32) M6) (fun M8 =>
      bI (l4 + (1 : Int32)) (fun v9 =>
      (F_XProver_askEquation_27 n f) l0 l1 l2 l3 v9 M8)))))))
set_option maxHeartbeats 4000000 in
set_option maxRecDepth 100000 in
theorem E_XProver_askEquation_27 {g : qG} {X : qX} {Z : qZ} (hn : 5 ≤ zn Z) (hl : 120 ≤ zl Z) {n : Nat} : ∀ (f : Nat) (l0 : Nat) (l1 : Nat) (l2 : Int32) (l3 : Nat) (l4 : Int32) (M : PM), F_XProver_askEquation_27 n f l0 l1 l2 l3 l4 M = some (zr Z, zf Z) → EW Y_XProver_askEquation g X Z 27 [(0, .ref l0), (1, .ref l1), (2, .int l2), (3, .ref l3), (4, .int l4)] [] M := by
  intro f
  induction f with
  | zero => intro l0 l1 l2 l3 l4 M h; rw [F_XProver_askEquation_27] at h; cases h
  | succ f ih =>
    intro l0 l1 l2 l3 l4 M h
    rw [F_XProver_askEquation_27] at h
    refine ew_iload d_XProver_askEquation_27 rfl ?_
    refine ew_iload_n 2 d_XProver_askEquation_29 rfl rfl ?_
    refine ew_icmp_ge 59 d_XProver_askEquation_30 (by decide) (fun c1 => ?_) (fun c1 => ?_)
    · rw [if_pos c1] at h
      refine ew_aload_n 0 d_XProver_askEquation_59 rfl rfl ?_
      refine ew_aload_n 1 d_XProver_askEquation_60 rfl rfl ?_
      refine ew_aload_n 0 d_XProver_askEquation_61 rfl rfl ?_
      obtain ⟨v2, av2, bv2, h⟩ := gR_inv h
      refine ew_gR 6 6 d_XProver_askEquation_62 fl_XProver_47 av2 bv2 ?_
      obtain ⟨kM3, h⟩ := kO_inv h
      obtain ⟨M3, hM3, h⟩ := cV_inv h
      refine ew_callV 6 [.ref l1, .ref v2] d_XProver_askEquation_65 cv_XProver_68 (T_XProver_plainStep hM3) kM3 (Nat.le_trans (Nat.le_of_ble_eq_true rfl) hn) (Nat.le_trans (Nat.le_of_ble_eq_true rfl) hl) (Nat.le_of_ble_eq_true rfl) rfl rfl ?_
      refine ew_aload_n 0 d_XProver_askEquation_68 rfl rfl ?_
      obtain ⟨kM4, h⟩ := kO_inv h
      obtain ⟨M4, hM4, h⟩ := cV_inv h
      refine ew_callV 6 [] d_XProver_askEquation_69 cv_XProver_72 (T_XProver_markInvariants hM4) kM4 (Nat.le_trans (Nat.le_of_ble_eq_true rfl) hn) (Nat.le_trans (Nat.le_of_ble_eq_true rfl) hl) (Nat.le_of_ble_eq_true rfl) rfl rfl ?_
      refine ew_iconst (0) d_XProver_askEquation_72 (by decide) ?_
      refine ew_istore (L' := [(0, .ref l0), (1, .ref l1), (2, .int l2), (3, .ref l3), (4, .int (0 : Int32))]) [1, 2, 3, 4, 0] d_XProver_askEquation_73 (by decide) rfl ?_
      exact ew_pick (L' := [(0, .ref l0), (1, .ref l1), (3, .ref l3), (4, .int (0 : Int32))]) [0, 1, 3, 4] rfl (E_XProver_askEquation_75 hn hl n l0 l1 l3 (0 : Int32) M4 h)
    · rw [if_neg c1] at h
      refine ew_aload_n 0 d_XProver_askEquation_33 rfl rfl ?_
      refine ew_aload_n 1 d_XProver_askEquation_34 rfl rfl ?_
      refine ew_aload_n 0 d_XProver_askEquation_35 rfl rfl ?_
      obtain ⟨v5, av5, bv5, h⟩ := gR_inv h
      refine ew_gR 6 5 d_XProver_askEquation_36 fl_XProver_44 av5 bv5 ?_
      refine ew_iconst (0) d_XProver_askEquation_39 (by decide) ?_
      obtain ⟨kM6, h⟩ := kO_inv h
      obtain ⟨M6, hM6, h⟩ := cV_inv h
      refine ew_callV 6 [.ref l1, .ref v5, .int (0 : Int32)] d_XProver_askEquation_40 cv_XProver_64 (T_XProver_step hM6) kM6 (Nat.le_trans (Nat.le_of_ble_eq_true rfl) hn) (Nat.le_trans (Nat.le_of_ble_eq_true rfl) hl) (Nat.le_of_ble_eq_true rfl) rfl rfl ?_
      refine ew_aload_n 0 d_XProver_askEquation_43 rfl rfl ?_
      refine ew_aload_n 1 d_XProver_askEquation_44 rfl rfl ?_
      refine ew_aload_n 0 d_XProver_askEquation_45 rfl rfl ?_
      obtain ⟨v7, av7, bv7, h⟩ := gR_inv h
      refine ew_gR 6 6 d_XProver_askEquation_46 fl_XProver_47 av7 bv7 ?_
      refine ew_iconst (0) d_XProver_askEquation_49 (by decide) ?_
      obtain ⟨kM8, h⟩ := kO_inv h
      obtain ⟨M8, hM8, h⟩ := cV_inv h
      refine ew_callV 6 [.ref l1, .ref v7, .int (0 : Int32)] d_XProver_askEquation_50 cv_XProver_64 (T_XProver_step hM8) kM8 (Nat.le_trans (Nat.le_of_ble_eq_true rfl) hn) (Nat.le_trans (Nat.le_of_ble_eq_true rfl) hl) (Nat.le_of_ble_eq_true rfl) rfl rfl ?_
      obtain ⟨v9, ev9, h⟩ := bI_inv h
      refine ew_iinc (L' := [(0, .ref l0), (1, .ref l1), (2, .int l2), (3, .ref l3), (4, .int v9)]) v9 [1, 2, 3, 4, 0] d_XProver_askEquation_53 rfl (by rw [ev9]; rfl) (by decide) rfl ?_
      refine ew_goto 27 d_XProver_askEquation_56 (by decide) ?_
      exact ih l0 l1 l2 l3 v9 M8 h
def F_XProver_askEquation (n : Nat) (l0 : Nat) (l1 : Nat) (l2 : Int32) (l3 : Nat) (M : PM) : qO :=
  gI 2 M l1 6 (fun v1 =>
  kO 4 M l3 (
  cV (F_XOutcome_begin n l3 v1 (1 : Int32) M) (fun M2 =>
  kO 6 M2 l0 (
  cV (F_XProver_begin n l0 l1 M2) (fun M3 =>
  gR 6 M3 l0 5 (fun v4 =>
  kO 6 M3 l0 (
  cV (F_XProver_step n l0 l1 v4 (1 : Int32) M3) (fun M5 =>
  F_XProver_askEquation_27 n n l0 l1 l2 l3 (0 : Int32) M5))))))))
set_option maxHeartbeats 4000000 in
set_option maxRecDepth 100000 in
theorem E_XProver_askEquation {g : qG} {X : qX} {Z : qZ} (hn : 5 ≤ zn Z) (hl : 120 ≤ zl Z) {n : Nat} {l0 : Nat} {l1 : Nat} {l2 : Int32} {l3 : Nat} {M : PM} (h : F_XProver_askEquation n l0 l1 l2 l3 M = some (zr Z, zf Z)) : EW Y_XProver_askEquation g X Z 0 [(0, .ref l0), (1, .ref l1), (2, .int l2), (3, .ref l3)] [] M := by
  unfold F_XProver_askEquation at h
  refine ew_aload_n 3 d_XProver_askEquation_0 rfl rfl ?_
  refine ew_aload_n 1 d_XProver_askEquation_1 rfl rfl ?_
  obtain ⟨v1, av1, bv1, h⟩ := gI_inv h
  refine ew_gI 2 6 d_XProver_askEquation_2 fl_XProver_50 av1 bv1 ?_
  refine ew_iconst (1) d_XProver_askEquation_5 (by decide) ?_
  obtain ⟨kM2, h⟩ := kO_inv h
  obtain ⟨M2, hM2, h⟩ := cV_inv h
  refine ew_callV 4 [.int v1, .int (1 : Int32)] d_XProver_askEquation_6 cv_XProver_56 (T_XOutcome_begin hM2) kM2 (Nat.le_trans (Nat.le_of_ble_eq_true rfl) hn) (Nat.le_trans (Nat.le_of_ble_eq_true rfl) hl) (Nat.le_of_ble_eq_true rfl) rfl rfl ?_
  refine ew_aload_n 0 d_XProver_askEquation_9 rfl rfl ?_
  refine ew_aload_n 1 d_XProver_askEquation_10 rfl rfl ?_
  obtain ⟨kM3, h⟩ := kO_inv h
  obtain ⟨M3, hM3, h⟩ := cV_inv h
  refine ew_callV 6 [.ref l1] d_XProver_askEquation_11 cv_XProver_61 (T_XProver_begin hM3) kM3 (Nat.le_trans (Nat.le_of_ble_eq_true rfl) hn) (Nat.le_trans (Nat.le_of_ble_eq_true rfl) hl) (Nat.le_of_ble_eq_true rfl) rfl rfl ?_
  refine ew_aload_n 0 d_XProver_askEquation_14 rfl rfl ?_
  refine ew_aload_n 1 d_XProver_askEquation_15 rfl rfl ?_
  refine ew_aload_n 0 d_XProver_askEquation_16 rfl rfl ?_
  obtain ⟨v4, av4, bv4, h⟩ := gR_inv h
  refine ew_gR 6 5 d_XProver_askEquation_17 fl_XProver_44 av4 bv4 ?_
  refine ew_iconst (1) d_XProver_askEquation_20 (by decide) ?_
  obtain ⟨kM5, h⟩ := kO_inv h
  obtain ⟨M5, hM5, h⟩ := cV_inv h
  refine ew_callV 6 [.ref l1, .ref v4, .int (1 : Int32)] d_XProver_askEquation_21 cv_XProver_64 (T_XProver_step hM5) kM5 (Nat.le_trans (Nat.le_of_ble_eq_true rfl) hn) (Nat.le_trans (Nat.le_of_ble_eq_true rfl) hl) (Nat.le_of_ble_eq_true rfl) rfl rfl ?_
  refine ew_iconst (0) d_XProver_askEquation_24 (by decide) ?_
  refine ew_istore (L' := [(0, .ref l0), (1, .ref l1), (2, .int l2), (3, .ref l3), (4, .int (0 : Int32))]) [1, 2, 3, 4, 0] d_XProver_askEquation_25 (by decide) rfl ?_
  exact E_XProver_askEquation_27 hn hl n l0 l1 l2 l3 (0 : Int32) M5 h
theorem T_XProver_askEquation {n : Nat} {l0 : Nat} {l1 : Nat} {l2 : Int32} {l3 : Nat} {M Mf : PM} {res : qRs} (h : F_XProver_askEquation n l0 l1 l2 l3 M = some (res, Mf)) : CT Y_XProver_askEquation 5 120 [.ref l0, .ref l1, .int l2, .ref l3] M res Mf :=
  CT_of (by decide) (Nat.le_of_ble_eq_true rfl) (qHd_ne (by decide)) (fun g X ad0 => E_XProver_askEquation (g := g) (X := X) (Z := (ad0, M, res, Mf, 5, 120)) (Nat.le_refl _) (Nat.le_refl _) h)
theorem d_XProver_askKept_0 : decode Y_XProver_askKept.2.1 0 = .ok (.aload_n 3, 1) := by decide +kernel
theorem d_XProver_askKept_1 : decode Y_XProver_askKept.2.1 1 = .ok (.aload_n 1, 1) := by decide +kernel
theorem d_XProver_askKept_2 : decode Y_XProver_askKept.2.1 2 = .ok (.getfield 50, 3) := by decide +kernel
theorem d_XProver_askKept_5 : decode Y_XProver_askKept.2.1 5 = .ok (.iconst 0, 1) := by decide +kernel
theorem d_XProver_askKept_6 : decode Y_XProver_askKept.2.1 6 = .ok (.invokevirtual 56, 3) := by decide +kernel
theorem d_XProver_askKept_9 : decode Y_XProver_askKept.2.1 9 = .ok (.aload_n 0, 1) := by decide +kernel
theorem d_XProver_askKept_10 : decode Y_XProver_askKept.2.1 10 = .ok (.aload_n 1, 1) := by decide +kernel
theorem d_XProver_askKept_11 : decode Y_XProver_askKept.2.1 11 = .ok (.invokevirtual 61, 3) := by decide +kernel
theorem d_XProver_askKept_14 : decode Y_XProver_askKept.2.1 14 = .ok (.aload_n 0, 1) := by decide +kernel
theorem d_XProver_askKept_15 : decode Y_XProver_askKept.2.1 15 = .ok (.aload_n 1, 1) := by decide +kernel
theorem d_XProver_askKept_16 : decode Y_XProver_askKept.2.1 16 = .ok (.aload_n 0, 1) := by decide +kernel
theorem d_XProver_askKept_17 : decode Y_XProver_askKept.2.1 17 = .ok (.getfield 44, 3) := by decide +kernel
theorem d_XProver_askKept_20 : decode Y_XProver_askKept.2.1 20 = .ok (.iconst 2, 1) := by decide +kernel
theorem d_XProver_askKept_21 : decode Y_XProver_askKept.2.1 21 = .ok (.invokevirtual 64, 3) := by decide +kernel
theorem d_XProver_askKept_24 : decode Y_XProver_askKept.2.1 24 = .ok (.aload_n 0, 1) := by decide +kernel
theorem d_XProver_askKept_25 : decode Y_XProver_askKept.2.1 25 = .ok (.aload_n 1, 1) := by decide +kernel
theorem d_XProver_askKept_26 : decode Y_XProver_askKept.2.1 26 = .ok (.aload_n 0, 1) := by decide +kernel
theorem d_XProver_askKept_27 : decode Y_XProver_askKept.2.1 27 = .ok (.getfield 44, 3) := by decide +kernel
theorem d_XProver_askKept_30 : decode Y_XProver_askKept.2.1 30 = .ok (.iconst 2, 1) := by decide +kernel
theorem d_XProver_askKept_31 : decode Y_XProver_askKept.2.1 31 = .ok (.invokevirtual 93, 3) := by decide +kernel
theorem d_XProver_askKept_34 : decode Y_XProver_askKept.2.1 34 = .ok (.aload_n 0, 1) := by decide +kernel
theorem d_XProver_askKept_35 : decode Y_XProver_askKept.2.1 35 = .ok (.getfield 14, 3) := by decide +kernel
theorem d_XProver_askKept_38 : decode Y_XProver_askKept.2.1 38 = .ok (.aload_n 1, 1) := by decide +kernel
theorem d_XProver_askKept_39 : decode Y_XProver_askKept.2.1 39 = .ok (.getfield 96, 3) := by decide +kernel
theorem d_XProver_askKept_42 : decode Y_XProver_askKept.2.1 42 = .ok (.aload_n 0, 1) := by decide +kernel
theorem d_XProver_askKept_43 : decode Y_XProver_askKept.2.1 43 = .ok (.getfield 40, 3) := by decide +kernel
theorem d_XProver_askKept_46 : decode Y_XProver_askKept.2.1 46 = .ok (.invokevirtual 99, 3) := by decide +kernel
theorem d_XProver_askKept_49 : decode Y_XProver_askKept.2.1 49 = .ok (.aload_n 0, 1) := by decide +kernel
theorem d_XProver_askKept_50 : decode Y_XProver_askKept.2.1 50 = .ok (.getfield 40, 3) := by decide +kernel
theorem d_XProver_askKept_53 : decode Y_XProver_askKept.2.1 53 = .ok (.aload_n 1, 1) := by decide +kernel
theorem d_XProver_askKept_54 : decode Y_XProver_askKept.2.1 54 = .ok (.getfield 103, 3) := by decide +kernel
theorem d_XProver_askKept_57 : decode Y_XProver_askKept.2.1 57 = .ok (.iload_n 2, 1) := by decide +kernel
theorem d_XProver_askKept_58 : decode Y_XProver_askKept.2.1 58 = .ok (.iaload, 1) := by decide +kernel
theorem d_XProver_askKept_59 : decode Y_XProver_askKept.2.1 59 = .ok (.iaload, 1) := by decide +kernel
theorem d_XProver_askKept_60 : decode Y_XProver_askKept.2.1 60 = .ok (.istore 4, 2) := by decide +kernel
theorem d_XProver_askKept_62 : decode Y_XProver_askKept.2.1 62 = .ok (.aload_n 0, 1) := by decide +kernel
theorem d_XProver_askKept_63 : decode Y_XProver_askKept.2.1 63 = .ok (.invokevirtual 72, 3) := by decide +kernel
theorem d_XProver_askKept_66 : decode Y_XProver_askKept.2.1 66 = .ok (.aload_n 0, 1) := by decide +kernel
theorem d_XProver_askKept_67 : decode Y_XProver_askKept.2.1 67 = .ok (.getfield 14, 3) := by decide +kernel
theorem d_XProver_askKept_70 : decode Y_XProver_askKept.2.1 70 = .ok (.aload_n 0, 1) := by decide +kernel
theorem d_XProver_askKept_71 : decode Y_XProver_askKept.2.1 71 = .ok (.getfield 36, 3) := by decide +kernel
theorem d_XProver_askKept_74 : decode Y_XProver_askKept.2.1 74 = .ok (.iload 4, 2) := by decide +kernel
theorem d_XProver_askKept_76 : decode Y_XProver_askKept.2.1 76 = .ok (.invokevirtual 78, 3) := by decide +kernel
theorem d_XProver_askKept_79 : decode Y_XProver_askKept.2.1 79 = .ok (.aload_n 0, 1) := by decide +kernel
theorem d_XProver_askKept_80 : decode Y_XProver_askKept.2.1 80 = .ok (.aload_n 3, 1) := by decide +kernel
theorem d_XProver_askKept_81 : decode Y_XProver_askKept.2.1 81 = .ok (.invokevirtual 82, 3) := by decide +kernel
theorem d_XProver_askKept_84 : decode Y_XProver_askKept.2.1 84 = .ok (.aload_n 0, 1) := by decide +kernel
theorem d_XProver_askKept_85 : decode Y_XProver_askKept.2.1 85 = .ok (.getfield 23, 3) := by decide +kernel
theorem d_XProver_askKept_88 : decode Y_XProver_askKept.2.1 88 = .ok (.aload_n 0, 1) := by decide +kernel
theorem d_XProver_askKept_89 : decode Y_XProver_askKept.2.1 89 = .ok (.getfield 14, 3) := by decide +kernel
theorem d_XProver_askKept_92 : decode Y_XProver_askKept.2.1 92 = .ok (.iload 4, 2) := by decide +kernel
theorem d_XProver_askKept_94 : decode Y_XProver_askKept.2.1 94 = .ok (.invokevirtual 106, 3) := by decide +kernel
theorem d_XProver_askKept_97 : decode Y_XProver_askKept.2.1 97 = .ok (.iconst (-1), 1) := by decide +kernel
theorem d_XProver_askKept_98 : decode Y_XProver_askKept.2.1 98 = .ok (.invokevirtual 90, 3) := by decide +kernel
theorem d_XProver_askKept_101 : decode Y_XProver_askKept.2.1 101 = .ok (.return_, 1) := by decide +kernel
def F_XProver_askKept (n : Nat) (l0 : Nat) (l1 : Nat) (l2 : Int32) (l3 : Nat) (M : PM) : qO :=
  gI 2 M l1 6 (fun v1 =>
  kO 4 M l3 (
  cV (F_XOutcome_begin n l3 v1 (0 : Int32) M) (fun M2 =>
  kO 6 M2 l0 (
  cV (F_XProver_begin n l0 l1 M2) (fun M3 =>
  gR 6 M3 l0 5 (fun v4 =>
  kO 6 M3 l0 (
  cV (F_XProver_step n l0 l1 v4 (2 : Int32) M3) (fun M5 =>
  gR 6 M5 l0 5 (fun v6 =>
  kO 6 M5 l0 (
  cV (F_XProver_putIn n l0 l1 v6 (2 : Int32) M5) (fun M7 =>
  gR 6 M7 l0 0 (fun v8 =>
  gR 2 M7 l1 0 (fun v9 =>
  gR 6 M7 l0 4 (fun v10 =>
  kO 3 M7 v8 (
  cV (F_XNodes_remakeAll n v8 v9 v10 M7) (fun M11 =>
  gR 6 M11 l0 4 (fun v12 =>
  gR 2 M11 l1 4 (fun v13 =>
  lI M11 v13 l2 (fun v14 =>
  lI M11 v12 v14 (fun v15 =>
  kO 6 M11 l0 (
  cV (F_XProver_markInvariants n l0 M11) (fun M16 =>
  gR 6 M16 l0 0 (fun v17 =>
  gR 6 M16 l0 3 (fun v18 =>
  kO 3 M16 v17 (
  cV (F_XNodes_mark n v17 v18 v15 M16) (fun M19 =>
  kO 6 M19 l0 (
  cV (F_XProver_countDeep n l0 l3 M19) (fun M20 =>
  gR 6 M20 l0 1 (fun v21 =>
  gR 6 M20 l0 0 (fun v22 =>
  kO 3 M20 v22 (
  cI (F_XNodes_makeNot n v22 v15 M20) (fun v24 M23 =>
  kO 7 M23 v21 (
  cV (F_XQuestion_addClaim n v21 v24 (-1 : Int32) M23) (fun M25 =>
  some (.inl none, M25)))))))))))))))))))))))))))))))))))
set_option maxHeartbeats 4000000 in
set_option maxRecDepth 100000 in
theorem E_XProver_askKept {g : qG} {X : qX} {Z : qZ} (hn : 5 ≤ zn Z) (hl : 120 ≤ zl Z) {n : Nat} {l0 : Nat} {l1 : Nat} {l2 : Int32} {l3 : Nat} {M : PM} (h : F_XProver_askKept n l0 l1 l2 l3 M = some (zr Z, zf Z)) : EW Y_XProver_askKept g X Z 0 [(0, .ref l0), (1, .ref l1), (2, .int l2), (3, .ref l3)] [] M := by
  unfold F_XProver_askKept at h
  refine ew_aload_n 3 d_XProver_askKept_0 rfl rfl ?_
  refine ew_aload_n 1 d_XProver_askKept_1 rfl rfl ?_
  obtain ⟨v1, av1, bv1, h⟩ := gI_inv h
  refine ew_gI 2 6 d_XProver_askKept_2 fl_XProver_50 av1 bv1 ?_
  refine ew_iconst (0) d_XProver_askKept_5 (by decide) ?_
  obtain ⟨kM2, h⟩ := kO_inv h
  obtain ⟨M2, hM2, h⟩ := cV_inv h
  refine ew_callV 4 [.int v1, .int (0 : Int32)] d_XProver_askKept_6 cv_XProver_56 (T_XOutcome_begin hM2) kM2 (Nat.le_trans (Nat.le_of_ble_eq_true rfl) hn) (Nat.le_trans (Nat.le_of_ble_eq_true rfl) hl) (Nat.le_of_ble_eq_true rfl) rfl rfl ?_
  refine ew_aload_n 0 d_XProver_askKept_9 rfl rfl ?_
  refine ew_aload_n 1 d_XProver_askKept_10 rfl rfl ?_
  obtain ⟨kM3, h⟩ := kO_inv h
  obtain ⟨M3, hM3, h⟩ := cV_inv h
  refine ew_callV 6 [.ref l1] d_XProver_askKept_11 cv_XProver_61 (T_XProver_begin hM3) kM3 (Nat.le_trans (Nat.le_of_ble_eq_true rfl) hn) (Nat.le_trans (Nat.le_of_ble_eq_true rfl) hl) (Nat.le_of_ble_eq_true rfl) rfl rfl ?_
  refine ew_aload_n 0 d_XProver_askKept_14 rfl rfl ?_
  refine ew_aload_n 1 d_XProver_askKept_15 rfl rfl ?_
  refine ew_aload_n 0 d_XProver_askKept_16 rfl rfl ?_
  obtain ⟨v4, av4, bv4, h⟩ := gR_inv h
  refine ew_gR 6 5 d_XProver_askKept_17 fl_XProver_44 av4 bv4 ?_
  refine ew_iconst (2) d_XProver_askKept_20 (by decide) ?_
  obtain ⟨kM5, h⟩ := kO_inv h
  obtain ⟨M5, hM5, h⟩ := cV_inv h
  refine ew_callV 6 [.ref l1, .ref v4, .int (2 : Int32)] d_XProver_askKept_21 cv_XProver_64 (T_XProver_step hM5) kM5 (Nat.le_trans (Nat.le_of_ble_eq_true rfl) hn) (Nat.le_trans (Nat.le_of_ble_eq_true rfl) hl) (Nat.le_of_ble_eq_true rfl) rfl rfl ?_
  refine ew_aload_n 0 d_XProver_askKept_24 rfl rfl ?_
  refine ew_aload_n 1 d_XProver_askKept_25 rfl rfl ?_
  refine ew_aload_n 0 d_XProver_askKept_26 rfl rfl ?_
  obtain ⟨v6, av6, bv6, h⟩ := gR_inv h
  refine ew_gR 6 5 d_XProver_askKept_27 fl_XProver_44 av6 bv6 ?_
  refine ew_iconst (2) d_XProver_askKept_30 (by decide) ?_
  obtain ⟨kM7, h⟩ := kO_inv h
  obtain ⟨M7, hM7, h⟩ := cV_inv h
  refine ew_callV 6 [.ref l1, .ref v6, .int (2 : Int32)] d_XProver_askKept_31 cv_XProver_93 (T_XProver_putIn hM7) kM7 (Nat.le_trans (Nat.le_of_ble_eq_true rfl) hn) (Nat.le_trans (Nat.le_of_ble_eq_true rfl) hl) (Nat.le_of_ble_eq_true rfl) rfl rfl ?_
  refine ew_aload_n 0 d_XProver_askKept_34 rfl rfl ?_
  obtain ⟨v8, av8, bv8, h⟩ := gR_inv h
  refine ew_gR 6 0 d_XProver_askKept_35 fl_XProver_14 av8 bv8 ?_
  refine ew_aload_n 1 d_XProver_askKept_38 rfl rfl ?_
  obtain ⟨v9, av9, bv9, h⟩ := gR_inv h
  refine ew_gR 2 0 d_XProver_askKept_39 fl_XProver_96 av9 bv9 ?_
  refine ew_aload_n 0 d_XProver_askKept_42 rfl rfl ?_
  obtain ⟨v10, av10, bv10, h⟩ := gR_inv h
  refine ew_gR 6 4 d_XProver_askKept_43 fl_XProver_40 av10 bv10 ?_
  obtain ⟨kM11, h⟩ := kO_inv h
  obtain ⟨M11, hM11, h⟩ := cV_inv h
  refine ew_callV 3 [.ref v9, .ref v10] d_XProver_askKept_46 cv_XProver_99 (T_XNodes_remakeAll hM11) kM11 (Nat.le_trans (Nat.le_of_ble_eq_true rfl) hn) (Nat.le_trans (Nat.le_of_ble_eq_true rfl) hl) (Nat.le_of_ble_eq_true rfl) rfl rfl ?_
  refine ew_aload_n 0 d_XProver_askKept_49 rfl rfl ?_
  obtain ⟨v12, av12, bv12, h⟩ := gR_inv h
  refine ew_gR 6 4 d_XProver_askKept_50 fl_XProver_40 av12 bv12 ?_
  refine ew_aload_n 1 d_XProver_askKept_53 rfl rfl ?_
  obtain ⟨v13, av13, bv13, h⟩ := gR_inv h
  refine ew_gR 2 4 d_XProver_askKept_54 fl_XProver_103 av13 bv13 ?_
  refine ew_iload_n 2 d_XProver_askKept_57 rfl rfl ?_
  obtain ⟨v14, av14, bv14, cv14, ev14, h⟩ := lI_inv h
  refine ew_lI d_XProver_askKept_58 av14 bv14 cv14 ev14 ?_
  obtain ⟨v15, av15, bv15, cv15, ev15, h⟩ := lI_inv h
  refine ew_lI d_XProver_askKept_59 av15 bv15 cv15 ev15 ?_
  refine ew_istore (L' := [(0, .ref l0), (1, .ref l1), (2, .int l2), (3, .ref l3), (4, .int v15)]) [1, 2, 3, 4, 0] d_XProver_askKept_60 (by decide) rfl ?_
  refine ew_aload_n 0 d_XProver_askKept_62 rfl rfl ?_
  obtain ⟨kM16, h⟩ := kO_inv h
  obtain ⟨M16, hM16, h⟩ := cV_inv h
  refine ew_callV 6 [] d_XProver_askKept_63 cv_XProver_72 (T_XProver_markInvariants hM16) kM16 (Nat.le_trans (Nat.le_of_ble_eq_true rfl) hn) (Nat.le_trans (Nat.le_of_ble_eq_true rfl) hl) (Nat.le_of_ble_eq_true rfl) rfl rfl ?_
  refine ew_aload_n 0 d_XProver_askKept_66 rfl rfl ?_
  obtain ⟨v17, av17, bv17, h⟩ := gR_inv h
  refine ew_gR 6 0 d_XProver_askKept_67 fl_XProver_14 av17 bv17 ?_
  refine ew_aload_n 0 d_XProver_askKept_70 rfl rfl ?_
  obtain ⟨v18, av18, bv18, h⟩ := gR_inv h
  refine ew_gR 6 3 d_XProver_askKept_71 fl_XProver_36 av18 bv18 ?_
  refine ew_iload d_XProver_askKept_74 rfl ?_
  obtain ⟨kM19, h⟩ := kO_inv h
  obtain ⟨M19, hM19, h⟩ := cV_inv h
  refine ew_callV 3 [.ref v18, .int v15] d_XProver_askKept_76 cv_XProver_78 (T_XNodes_mark hM19) kM19 (Nat.le_trans (Nat.le_of_ble_eq_true rfl) hn) (Nat.le_trans (Nat.le_of_ble_eq_true rfl) hl) (Nat.le_of_ble_eq_true rfl) rfl rfl ?_
  refine ew_aload_n 0 d_XProver_askKept_79 rfl rfl ?_
  refine ew_aload_n 3 d_XProver_askKept_80 rfl rfl ?_
  obtain ⟨kM20, h⟩ := kO_inv h
  obtain ⟨M20, hM20, h⟩ := cV_inv h
  refine ew_callV 6 [.ref l3] d_XProver_askKept_81 cv_XProver_82 (T_XProver_countDeep hM20) kM20 (Nat.le_trans (Nat.le_of_ble_eq_true rfl) hn) (Nat.le_trans (Nat.le_of_ble_eq_true rfl) hl) (Nat.le_of_ble_eq_true rfl) rfl rfl ?_
  refine ew_aload_n 0 d_XProver_askKept_84 rfl rfl ?_
  obtain ⟨v21, av21, bv21, h⟩ := gR_inv h
  refine ew_gR 6 1 d_XProver_askKept_85 fl_XProver_23 av21 bv21 ?_
  refine ew_aload_n 0 d_XProver_askKept_88 rfl rfl ?_
  obtain ⟨v22, av22, bv22, h⟩ := gR_inv h
  refine ew_gR 6 0 d_XProver_askKept_89 fl_XProver_14 av22 bv22 ?_
  refine ew_iload d_XProver_askKept_92 rfl ?_
  obtain ⟨kM23, h⟩ := kO_inv h
  obtain ⟨v24, M23, hM23, h⟩ := cI_inv h
  refine ew_callV 3 [.int v15] d_XProver_askKept_94 cv_XProver_106 (T_XNodes_makeNot hM23) kM23 (Nat.le_trans (Nat.le_of_ble_eq_true rfl) hn) (Nat.le_trans (Nat.le_of_ble_eq_true rfl) hl) (Nat.le_of_ble_eq_true rfl) rfl rfl ?_
  refine ew_iconst (-1) d_XProver_askKept_97 (by decide) ?_
  obtain ⟨kM25, h⟩ := kO_inv h
  obtain ⟨M25, hM25, h⟩ := cV_inv h
  refine ew_callV 7 [.int v24, .int (-1 : Int32)] d_XProver_askKept_98 cv_XProver_90 (T_XQuestion_addClaim hM25) kM25 (Nat.le_trans (Nat.le_of_ble_eq_true rfl) hn) (Nat.le_trans (Nat.le_of_ble_eq_true rfl) hl) (Nat.le_of_ble_eq_true rfl) rfl rfl ?_
  obtain ⟨hz, hm⟩ := Prod.mk.inj (Option.some.inj h)
  exact ew_return d_XProver_askKept_101 rfl hz.symm hm.symm
theorem T_XProver_askKept {n : Nat} {l0 : Nat} {l1 : Nat} {l2 : Int32} {l3 : Nat} {M Mf : PM} {res : qRs} (h : F_XProver_askKept n l0 l1 l2 l3 M = some (res, Mf)) : CT Y_XProver_askKept 5 120 [.ref l0, .ref l1, .int l2, .ref l3] M res Mf :=
  CT_of (by decide) (Nat.le_of_ble_eq_true rfl) (qHd_ne (by decide)) (fun g X ad0 => E_XProver_askKept (g := g) (X := X) (Z := (ad0, M, res, Mf, 5, 120)) (Nat.le_refl _) (Nat.le_refl _) h)
theorem d_XProver_markNeeded_0 : decode Y_XProver_markNeeded.2.1 0 = .ok (.aload_n 0, 1) := by decide +kernel
theorem d_XProver_markNeeded_1 : decode Y_XProver_markNeeded.2.1 1 = .ok (.invokevirtual 72, 3) := by decide +kernel
theorem d_XProver_markNeeded_4 : decode Y_XProver_markNeeded.2.1 4 = .ok (.iconst 0, 1) := by decide +kernel
theorem d_XProver_markNeeded_5 : decode Y_XProver_markNeeded.2.1 5 = .ok (.istore_n 1, 1) := by decide +kernel
theorem d_XProver_markNeeded_6 : decode Y_XProver_markNeeded.2.1 6 = .ok (.iload_n 1, 1) := by decide +kernel
theorem d_XProver_markNeeded_7 : decode Y_XProver_markNeeded.2.1 7 = .ok (.aload_n 0, 1) := by decide +kernel
theorem d_XProver_markNeeded_8 : decode Y_XProver_markNeeded.2.1 8 = .ok (.getfield 23, 3) := by decide +kernel
theorem d_XProver_markNeeded_11 : decode Y_XProver_markNeeded.2.1 11 = .ok (.getfield 167, 3) := by decide +kernel
theorem d_XProver_markNeeded_14 : decode Y_XProver_markNeeded.2.1 14 = .ok (.if_icmp .ge (29), 3) := by decide +kernel
theorem d_XProver_markNeeded_17 : decode Y_XProver_markNeeded.2.1 17 = .ok (.aload_n 0, 1) := by decide +kernel
theorem d_XProver_markNeeded_18 : decode Y_XProver_markNeeded.2.1 18 = .ok (.getfield 14, 3) := by decide +kernel
theorem d_XProver_markNeeded_21 : decode Y_XProver_markNeeded.2.1 21 = .ok (.aload_n 0, 1) := by decide +kernel
theorem d_XProver_markNeeded_22 : decode Y_XProver_markNeeded.2.1 22 = .ok (.getfield 36, 3) := by decide +kernel
theorem d_XProver_markNeeded_25 : decode Y_XProver_markNeeded.2.1 25 = .ok (.aload_n 0, 1) := by decide +kernel
theorem d_XProver_markNeeded_26 : decode Y_XProver_markNeeded.2.1 26 = .ok (.getfield 23, 3) := by decide +kernel
theorem d_XProver_markNeeded_29 : decode Y_XProver_markNeeded.2.1 29 = .ok (.getfield 180, 3) := by decide +kernel
theorem d_XProver_markNeeded_32 : decode Y_XProver_markNeeded.2.1 32 = .ok (.iload_n 1, 1) := by decide +kernel
theorem d_XProver_markNeeded_33 : decode Y_XProver_markNeeded.2.1 33 = .ok (.iaload, 1) := by decide +kernel
theorem d_XProver_markNeeded_34 : decode Y_XProver_markNeeded.2.1 34 = .ok (.invokevirtual 78, 3) := by decide +kernel
theorem d_XProver_markNeeded_37 : decode Y_XProver_markNeeded.2.1 37 = .ok (.iinc 1 (1), 3) := by decide +kernel
theorem d_XProver_markNeeded_40 : decode Y_XProver_markNeeded.2.1 40 = .ok (.goto (-34), 3) := by decide +kernel
theorem d_XProver_markNeeded_43 : decode Y_XProver_markNeeded.2.1 43 = .ok (.aload_n 0, 1) := by decide +kernel
theorem d_XProver_markNeeded_44 : decode Y_XProver_markNeeded.2.1 44 = .ok (.getfield 14, 3) := by decide +kernel
theorem d_XProver_markNeeded_47 : decode Y_XProver_markNeeded.2.1 47 = .ok (.aload_n 0, 1) := by decide +kernel
theorem d_XProver_markNeeded_48 : decode Y_XProver_markNeeded.2.1 48 = .ok (.getfield 36, 3) := by decide +kernel
theorem d_XProver_markNeeded_51 : decode Y_XProver_markNeeded.2.1 51 = .ok (.invokevirtual 145, 3) := by decide +kernel
theorem d_XProver_markNeeded_54 : decode Y_XProver_markNeeded.2.1 54 = .ok (.return_, 1) := by decide +kernel
def F_XProver_markNeeded_6 (n : Nat) : Nat → Nat → Int32 → PM → qO
  | 0, _, _, _ => none
  | f + 1, l0, l1, M =>
    gR 6 M l0 1 (fun v1 =>
    gI 7 M v1 4 (fun v2 =>
    if v2 ≤ l1 then
      gR 6 M l0 0 (fun v4 =>
      gR 6 M l0 3 (fun v5 =>
      kO 3 M v4 (
      cV (F_XNodes_spread n v4 v5 M) (fun M6 =>
      some (.inl none, M6)))))
    else
      gR 6 M l0 0 (fun v7 =>
      gR 6 M l0 3 (fun v8 =>
      gR 6 M l0 1 (fun v9 =>
      gR 7 M v9 1 (fun v10 =>
      lI M v10 l1 (fun v11 =>
      kO 3 M v7 (
      cV (F_XNodes_mark n v7 v8 v11 M) (fun M12 =>
      bI (l1 + (1 : Int32)) (fun v13 =>
      (F_XProver_markNeeded_6 n f) l0 v13 M12))))))))))
set_option maxHeartbeats 4000000 in
set_option maxRecDepth 100000 in
theorem E_XProver_markNeeded_6 {g : qG} {X : qX} {Z : qZ} (hn : 3 ≤ zn Z) (hl : 65 ≤ zl Z) {n : Nat} : ∀ (f : Nat) (l0 : Nat) (l1 : Int32) (M : PM), F_XProver_markNeeded_6 n f l0 l1 M = some (zr Z, zf Z) → EW Y_XProver_markNeeded g X Z 6 [(0, .ref l0), (1, .int l1)] [] M := by
  intro f
  induction f with
  | zero => intro l0 l1 M h; rw [F_XProver_markNeeded_6] at h; cases h
  | succ f ih =>
    intro l0 l1 M h
    rw [F_XProver_markNeeded_6] at h
    refine ew_iload_n 1 d_XProver_markNeeded_6 rfl rfl ?_
    refine ew_aload_n 0 d_XProver_markNeeded_7 rfl rfl ?_
    obtain ⟨v1, av1, bv1, h⟩ := gR_inv h
    refine ew_gR 6 1 d_XProver_markNeeded_8 fl_XProver_23 av1 bv1 ?_
    obtain ⟨v2, av2, bv2, h⟩ := gI_inv h
    refine ew_gI 7 4 d_XProver_markNeeded_11 fl_XProver_167 av2 bv2 ?_
    refine ew_icmp_ge 43 d_XProver_markNeeded_14 (by decide) (fun c3 => ?_) (fun c3 => ?_)
    · rw [if_pos c3] at h
      refine ew_aload_n 0 d_XProver_markNeeded_43 rfl rfl ?_
      obtain ⟨v4, av4, bv4, h⟩ := gR_inv h
      refine ew_gR 6 0 d_XProver_markNeeded_44 fl_XProver_14 av4 bv4 ?_
      refine ew_aload_n 0 d_XProver_markNeeded_47 rfl rfl ?_
      obtain ⟨v5, av5, bv5, h⟩ := gR_inv h
      refine ew_gR 6 3 d_XProver_markNeeded_48 fl_XProver_36 av5 bv5 ?_
      obtain ⟨kM6, h⟩ := kO_inv h
      obtain ⟨M6, hM6, h⟩ := cV_inv h
      refine ew_callV 3 [.ref v5] d_XProver_markNeeded_51 cv_XProver_145 (T_XNodes_spread hM6) kM6 (Nat.le_trans (Nat.le_of_ble_eq_true rfl) hn) (Nat.le_trans (Nat.le_of_ble_eq_true rfl) hl) (Nat.le_of_ble_eq_true rfl) rfl rfl ?_
      obtain ⟨hz, hm⟩ := Prod.mk.inj (Option.some.inj h)
      exact ew_return d_XProver_markNeeded_54 rfl hz.symm hm.symm
    · rw [if_neg c3] at h
      refine ew_aload_n 0 d_XProver_markNeeded_17 rfl rfl ?_
      obtain ⟨v7, av7, bv7, h⟩ := gR_inv h
      refine ew_gR 6 0 d_XProver_markNeeded_18 fl_XProver_14 av7 bv7 ?_
      refine ew_aload_n 0 d_XProver_markNeeded_21 rfl rfl ?_
      obtain ⟨v8, av8, bv8, h⟩ := gR_inv h
      refine ew_gR 6 3 d_XProver_markNeeded_22 fl_XProver_36 av8 bv8 ?_
      refine ew_aload_n 0 d_XProver_markNeeded_25 rfl rfl ?_
      obtain ⟨v9, av9, bv9, h⟩ := gR_inv h
      refine ew_gR 6 1 d_XProver_markNeeded_26 fl_XProver_23 av9 bv9 ?_
      obtain ⟨v10, av10, bv10, h⟩ := gR_inv h
      refine ew_gR 7 1 d_XProver_markNeeded_29 fl_XProver_180 av10 bv10 ?_
      refine ew_iload_n 1 d_XProver_markNeeded_32 rfl rfl ?_
      obtain ⟨v11, av11, bv11, cv11, ev11, h⟩ := lI_inv h
      refine ew_lI d_XProver_markNeeded_33 av11 bv11 cv11 ev11 ?_
      obtain ⟨kM12, h⟩ := kO_inv h
      obtain ⟨M12, hM12, h⟩ := cV_inv h
      refine ew_callV 3 [.ref v8, .int v11] d_XProver_markNeeded_34 cv_XProver_78 (T_XNodes_mark hM12) kM12 (Nat.le_trans (Nat.le_of_ble_eq_true rfl) hn) (Nat.le_trans (Nat.le_of_ble_eq_true rfl) hl) (Nat.le_of_ble_eq_true rfl) rfl rfl ?_
      obtain ⟨v13, ev13, h⟩ := bI_inv h
      refine ew_iinc (L' := [(0, .ref l0), (1, .int v13)]) v13 [1, 0] d_XProver_markNeeded_37 rfl (by rw [ev13]; rfl) (by decide) rfl ?_
      refine ew_goto 6 d_XProver_markNeeded_40 (by decide) ?_
      exact ih l0 v13 M12 h
def F_XProver_markNeeded (n : Nat) (l0 : Nat) (M : PM) : qO :=
  kO 6 M l0 (
  cV (F_XProver_markInvariants n l0 M) (fun M1 =>
  F_XProver_markNeeded_6 n n l0 (0 : Int32) M1))
set_option maxHeartbeats 4000000 in
set_option maxRecDepth 100000 in
theorem E_XProver_markNeeded {g : qG} {X : qX} {Z : qZ} (hn : 3 ≤ zn Z) (hl : 65 ≤ zl Z) {n : Nat} {l0 : Nat} {M : PM} (h : F_XProver_markNeeded n l0 M = some (zr Z, zf Z)) : EW Y_XProver_markNeeded g X Z 0 [(0, .ref l0)] [] M := by
  unfold F_XProver_markNeeded at h
  refine ew_aload_n 0 d_XProver_markNeeded_0 rfl rfl ?_
  obtain ⟨kM1, h⟩ := kO_inv h
  obtain ⟨M1, hM1, h⟩ := cV_inv h
  refine ew_callV 6 [] d_XProver_markNeeded_1 cv_XProver_72 (T_XProver_markInvariants hM1) kM1 (Nat.le_trans (Nat.le_of_ble_eq_true rfl) hn) (Nat.le_trans (Nat.le_of_ble_eq_true rfl) hl) (Nat.le_of_ble_eq_true rfl) rfl rfl ?_
  refine ew_iconst (0) d_XProver_markNeeded_4 (by decide) ?_
  refine ew_istore_n (L' := [(0, .ref l0), (1, .int (0 : Int32))]) 1 [1, 0] d_XProver_markNeeded_5 rfl (by decide) rfl ?_
  exact E_XProver_markNeeded_6 hn hl n l0 (0 : Int32) M1 h
theorem T_XProver_markNeeded {n : Nat} {l0 : Nat} {M Mf : PM} {res : qRs} (h : F_XProver_markNeeded n l0 M = some (res, Mf)) : CT Y_XProver_markNeeded 3 65 [.ref l0] M res Mf :=
  CT_of (by decide) (Nat.le_of_ble_eq_true rfl) (qHd_ne (by decide)) (fun g X ad0 => E_XProver_markNeeded (g := g) (X := X) (Z := (ad0, M, res, Mf, 3, 65)) (Nat.le_refl _) (Nat.le_refl _) h)
theorem d_XSearch_addTruth_0 : decode Y_XSearch_addTruth.2.1 0 = .ok (.aload_n 0, 1) := by decide +kernel
theorem d_XSearch_addTruth_1 : decode Y_XSearch_addTruth.2.1 1 = .ok (.getfield 74, 3) := by decide +kernel
theorem d_XSearch_addTruth_4 : decode Y_XSearch_addTruth.2.1 4 = .ok (.aload_n 0, 1) := by decide +kernel
theorem d_XSearch_addTruth_5 : decode Y_XSearch_addTruth.2.1 5 = .ok (.getfield 28, 3) := by decide +kernel
theorem d_XSearch_addTruth_8 : decode Y_XSearch_addTruth.2.1 8 = .ok (.arraylength, 1) := by decide +kernel
theorem d_XSearch_addTruth_9 : decode Y_XSearch_addTruth.2.1 9 = .ok (.if_icmp .ge (23), 3) := by decide +kernel
theorem d_XSearch_addTruth_12 : decode Y_XSearch_addTruth.2.1 12 = .ok (.aload_n 0, 1) := by decide +kernel
theorem d_XSearch_addTruth_13 : decode Y_XSearch_addTruth.2.1 13 = .ok (.getfield 28, 3) := by decide +kernel
theorem d_XSearch_addTruth_16 : decode Y_XSearch_addTruth.2.1 16 = .ok (.aload_n 0, 1) := by decide +kernel
theorem d_XSearch_addTruth_17 : decode Y_XSearch_addTruth.2.1 17 = .ok (.getfield 74, 3) := by decide +kernel
theorem d_XSearch_addTruth_20 : decode Y_XSearch_addTruth.2.1 20 = .ok (.iload_n 1, 1) := by decide +kernel
theorem d_XSearch_addTruth_21 : decode Y_XSearch_addTruth.2.1 21 = .ok (.iastore, 1) := by decide +kernel
theorem d_XSearch_addTruth_22 : decode Y_XSearch_addTruth.2.1 22 = .ok (.aload_n 0, 1) := by decide +kernel
theorem d_XSearch_addTruth_23 : decode Y_XSearch_addTruth.2.1 23 = .ok (.dup, 1) := by decide +kernel
theorem d_XSearch_addTruth_24 : decode Y_XSearch_addTruth.2.1 24 = .ok (.getfield 74, 3) := by decide +kernel
theorem d_XSearch_addTruth_27 : decode Y_XSearch_addTruth.2.1 27 = .ok (.iconst 1, 1) := by decide +kernel
theorem d_XSearch_addTruth_28 : decode Y_XSearch_addTruth.2.1 28 = .ok (.iadd, 1) := by decide +kernel
theorem d_XSearch_addTruth_29 : decode Y_XSearch_addTruth.2.1 29 = .ok (.putfield 74, 3) := by decide +kernel
theorem d_XSearch_addTruth_32 : decode Y_XSearch_addTruth.2.1 32 = .ok (.return_, 1) := by decide +kernel
def F_XSearch_addTruth_32 (n : Nat) (M : PM) : qO :=
  some (.inl none, M)
set_option maxHeartbeats 4000000 in
set_option maxRecDepth 100000 in
theorem E_XSearch_addTruth_32 {g : qG} {X : qX} {Z : qZ} (hn : 0 ≤ zn Z) (hl : 0 ≤ zl Z) {n : Nat} {M : PM} (h : F_XSearch_addTruth_32 n M = some (zr Z, zf Z)) : EW Y_XSearch_addTruth g X Z 32 [] [] M := by
  unfold F_XSearch_addTruth_32 at h
  obtain ⟨hz, hm⟩ := Prod.mk.inj (Option.some.inj h)
  exact ew_return d_XSearch_addTruth_32 rfl hz.symm hm.symm
def F_XSearch_addTruth (n : Nat) (l0 : Nat) (l1 : Int32) (M : PM) : qO :=
  gI 8 M l0 10 (fun v1 =>
  gR 8 M l0 3 (fun v2 =>
  aL M v2 (fun v3 =>
  if v3 ≤ v1 then
    F_XSearch_addTruth_32 n M
  else
    gR 8 M l0 3 (fun v5 =>
    gI 8 M l0 10 (fun v6 =>
    wI M v5 v6 l1 (fun M7 =>
    gI 8 M7 l0 10 (fun v8 =>
    pF 8 M7 l0 10 (.int (v8 + (1 : Int32))) (fun M9 =>
    F_XSearch_addTruth_32 n M9))))))))
set_option maxHeartbeats 4000000 in
set_option maxRecDepth 100000 in
theorem E_XSearch_addTruth {g : qG} {X : qX} {Z : qZ} (hn : 0 ≤ zn Z) (hl : 0 ≤ zl Z) {n : Nat} {l0 : Nat} {l1 : Int32} {M : PM} (h : F_XSearch_addTruth n l0 l1 M = some (zr Z, zf Z)) : EW Y_XSearch_addTruth g X Z 0 [(0, .ref l0), (1, .int l1)] [] M := by
  unfold F_XSearch_addTruth at h
  refine ew_aload_n 0 d_XSearch_addTruth_0 rfl rfl ?_
  obtain ⟨v1, av1, bv1, h⟩ := gI_inv h
  refine ew_gI 8 10 d_XSearch_addTruth_1 fl_XSearch_74 av1 bv1 ?_
  refine ew_aload_n 0 d_XSearch_addTruth_4 rfl rfl ?_
  obtain ⟨v2, av2, bv2, h⟩ := gR_inv h
  refine ew_gR 8 3 d_XSearch_addTruth_5 fl_XSearch_28 av2 bv2 ?_
  obtain ⟨v3, av3, ev3, h⟩ := aL_inv h
  refine ew_aL d_XSearch_addTruth_8 av3 ev3 ?_
  refine ew_icmp_ge 32 d_XSearch_addTruth_9 (by decide) (fun c4 => ?_) (fun c4 => ?_)
  · rw [if_pos c4] at h
    exact ew_pick (L' := []) [] rfl (E_XSearch_addTruth_32 hn hl h)
  · rw [if_neg c4] at h
    refine ew_aload_n 0 d_XSearch_addTruth_12 rfl rfl ?_
    obtain ⟨v5, av5, bv5, h⟩ := gR_inv h
    refine ew_gR 8 3 d_XSearch_addTruth_13 fl_XSearch_28 av5 bv5 ?_
    refine ew_aload_n 0 d_XSearch_addTruth_16 rfl rfl ?_
    obtain ⟨v6, av6, bv6, h⟩ := gI_inv h
    refine ew_gI 8 10 d_XSearch_addTruth_17 fl_XSearch_74 av6 bv6 ?_
    refine ew_iload_n 1 d_XSearch_addTruth_20 rfl rfl ?_
    obtain ⟨M7, aM7, bM7, cM7, eM7, h⟩ := wI_inv h
    refine ew_wI d_XSearch_addTruth_21 aM7 bM7 cM7 eM7 ?_
    refine ew_aload_n 0 d_XSearch_addTruth_22 rfl rfl ?_
    refine ew_dup d_XSearch_addTruth_23 rfl ?_
    obtain ⟨v8, av8, bv8, h⟩ := gI_inv h
    refine ew_gI 8 10 d_XSearch_addTruth_24 fl_XSearch_74 av8 bv8 ?_
    refine ew_iconst (1) d_XSearch_addTruth_27 (by decide) ?_
    refine ew_iadd d_XSearch_addTruth_28 ?_
    obtain ⟨M9, aM9, eM9, h⟩ := pF_inv h
    refine ew_pF 8 10 d_XSearch_addTruth_29 fl_XSearch_74 aM9 eM9 (fun ad => ⟨rfl, rfl⟩) ?_
    exact ew_pick (L' := []) [] rfl (E_XSearch_addTruth_32 hn hl h)
theorem T_XSearch_addTruth {n : Nat} {l0 : Nat} {l1 : Int32} {M Mf : PM} {res : qRs} (h : F_XSearch_addTruth n l0 l1 M = some (res, Mf)) : CT Y_XSearch_addTruth 0 0 [.ref l0, .int l1] M res Mf :=
  CT_of (by decide) (Nat.le_of_ble_eq_true rfl) (qHd_ne (by decide)) (fun g X ad0 => E_XSearch_addTruth (g := g) (X := X) (Z := (ad0, M, res, Mf, 0, 0)) (Nat.le_refl _) (Nat.le_refl _) h)
theorem d_XSearch_addWord_0 : decode Y_XSearch_addWord.2.1 0 = .ok (.aload_n 0, 1) := by decide +kernel
theorem d_XSearch_addWord_1 : decode Y_XSearch_addWord.2.1 1 = .ok (.getfield 111, 3) := by decide +kernel
theorem d_XSearch_addWord_4 : decode Y_XSearch_addWord.2.1 4 = .ok (.aload_n 0, 1) := by decide +kernel
theorem d_XSearch_addWord_5 : decode Y_XSearch_addWord.2.1 5 = .ok (.getfield 32, 3) := by decide +kernel
theorem d_XSearch_addWord_8 : decode Y_XSearch_addWord.2.1 8 = .ok (.arraylength, 1) := by decide +kernel
theorem d_XSearch_addWord_9 : decode Y_XSearch_addWord.2.1 9 = .ok (.if_icmp .ge (23), 3) := by decide +kernel
theorem d_XSearch_addWord_12 : decode Y_XSearch_addWord.2.1 12 = .ok (.aload_n 0, 1) := by decide +kernel
theorem d_XSearch_addWord_13 : decode Y_XSearch_addWord.2.1 13 = .ok (.getfield 32, 3) := by decide +kernel
theorem d_XSearch_addWord_16 : decode Y_XSearch_addWord.2.1 16 = .ok (.aload_n 0, 1) := by decide +kernel
theorem d_XSearch_addWord_17 : decode Y_XSearch_addWord.2.1 17 = .ok (.getfield 111, 3) := by decide +kernel
theorem d_XSearch_addWord_20 : decode Y_XSearch_addWord.2.1 20 = .ok (.iload_n 1, 1) := by decide +kernel
theorem d_XSearch_addWord_21 : decode Y_XSearch_addWord.2.1 21 = .ok (.iastore, 1) := by decide +kernel
theorem d_XSearch_addWord_22 : decode Y_XSearch_addWord.2.1 22 = .ok (.aload_n 0, 1) := by decide +kernel
theorem d_XSearch_addWord_23 : decode Y_XSearch_addWord.2.1 23 = .ok (.dup, 1) := by decide +kernel
theorem d_XSearch_addWord_24 : decode Y_XSearch_addWord.2.1 24 = .ok (.getfield 111, 3) := by decide +kernel
theorem d_XSearch_addWord_27 : decode Y_XSearch_addWord.2.1 27 = .ok (.iconst 1, 1) := by decide +kernel
theorem d_XSearch_addWord_28 : decode Y_XSearch_addWord.2.1 28 = .ok (.iadd, 1) := by decide +kernel
theorem d_XSearch_addWord_29 : decode Y_XSearch_addWord.2.1 29 = .ok (.putfield 111, 3) := by decide +kernel
theorem d_XSearch_addWord_32 : decode Y_XSearch_addWord.2.1 32 = .ok (.return_, 1) := by decide +kernel
def F_XSearch_addWord_32 (n : Nat) (M : PM) : qO :=
  some (.inl none, M)
set_option maxHeartbeats 4000000 in
set_option maxRecDepth 100000 in
theorem E_XSearch_addWord_32 {g : qG} {X : qX} {Z : qZ} (hn : 0 ≤ zn Z) (hl : 0 ≤ zl Z) {n : Nat} {M : PM} (h : F_XSearch_addWord_32 n M = some (zr Z, zf Z)) : EW Y_XSearch_addWord g X Z 32 [] [] M := by
  unfold F_XSearch_addWord_32 at h
  obtain ⟨hz, hm⟩ := Prod.mk.inj (Option.some.inj h)
  exact ew_return d_XSearch_addWord_32 rfl hz.symm hm.symm
def F_XSearch_addWord (n : Nat) (l0 : Nat) (l1 : Int32) (M : PM) : qO :=
  gI 8 M l0 11 (fun v1 =>
  gR 8 M l0 4 (fun v2 =>
  aL M v2 (fun v3 =>
  if v3 ≤ v1 then
    F_XSearch_addWord_32 n M
  else
    gR 8 M l0 4 (fun v5 =>
    gI 8 M l0 11 (fun v6 =>
    wI M v5 v6 l1 (fun M7 =>
    gI 8 M7 l0 11 (fun v8 =>
    pF 8 M7 l0 11 (.int (v8 + (1 : Int32))) (fun M9 =>
    F_XSearch_addWord_32 n M9))))))))
set_option maxHeartbeats 4000000 in
set_option maxRecDepth 100000 in
theorem E_XSearch_addWord {g : qG} {X : qX} {Z : qZ} (hn : 0 ≤ zn Z) (hl : 0 ≤ zl Z) {n : Nat} {l0 : Nat} {l1 : Int32} {M : PM} (h : F_XSearch_addWord n l0 l1 M = some (zr Z, zf Z)) : EW Y_XSearch_addWord g X Z 0 [(0, .ref l0), (1, .int l1)] [] M := by
  unfold F_XSearch_addWord at h
  refine ew_aload_n 0 d_XSearch_addWord_0 rfl rfl ?_
  obtain ⟨v1, av1, bv1, h⟩ := gI_inv h
  refine ew_gI 8 11 d_XSearch_addWord_1 fl_XSearch_111 av1 bv1 ?_
  refine ew_aload_n 0 d_XSearch_addWord_4 rfl rfl ?_
  obtain ⟨v2, av2, bv2, h⟩ := gR_inv h
  refine ew_gR 8 4 d_XSearch_addWord_5 fl_XSearch_32 av2 bv2 ?_
  obtain ⟨v3, av3, ev3, h⟩ := aL_inv h
  refine ew_aL d_XSearch_addWord_8 av3 ev3 ?_
  refine ew_icmp_ge 32 d_XSearch_addWord_9 (by decide) (fun c4 => ?_) (fun c4 => ?_)
  · rw [if_pos c4] at h
    exact ew_pick (L' := []) [] rfl (E_XSearch_addWord_32 hn hl h)
  · rw [if_neg c4] at h
    refine ew_aload_n 0 d_XSearch_addWord_12 rfl rfl ?_
    obtain ⟨v5, av5, bv5, h⟩ := gR_inv h
    refine ew_gR 8 4 d_XSearch_addWord_13 fl_XSearch_32 av5 bv5 ?_
    refine ew_aload_n 0 d_XSearch_addWord_16 rfl rfl ?_
    obtain ⟨v6, av6, bv6, h⟩ := gI_inv h
    refine ew_gI 8 11 d_XSearch_addWord_17 fl_XSearch_111 av6 bv6 ?_
    refine ew_iload_n 1 d_XSearch_addWord_20 rfl rfl ?_
    obtain ⟨M7, aM7, bM7, cM7, eM7, h⟩ := wI_inv h
    refine ew_wI d_XSearch_addWord_21 aM7 bM7 cM7 eM7 ?_
    refine ew_aload_n 0 d_XSearch_addWord_22 rfl rfl ?_
    refine ew_dup d_XSearch_addWord_23 rfl ?_
    obtain ⟨v8, av8, bv8, h⟩ := gI_inv h
    refine ew_gI 8 11 d_XSearch_addWord_24 fl_XSearch_111 av8 bv8 ?_
    refine ew_iconst (1) d_XSearch_addWord_27 (by decide) ?_
    refine ew_iadd d_XSearch_addWord_28 ?_
    obtain ⟨M9, aM9, eM9, h⟩ := pF_inv h
    refine ew_pF 8 11 d_XSearch_addWord_29 fl_XSearch_111 aM9 eM9 (fun ad => ⟨rfl, rfl⟩) ?_
    exact ew_pick (L' := []) [] rfl (E_XSearch_addWord_32 hn hl h)
theorem T_XSearch_addWord {n : Nat} {l0 : Nat} {l1 : Int32} {M Mf : PM} {res : qRs} (h : F_XSearch_addWord n l0 l1 M = some (res, Mf)) : CT Y_XSearch_addWord 0 0 [.ref l0, .int l1] M res Mf :=
  CT_of (by decide) (Nat.le_of_ble_eq_true rfl) (qHd_ne (by decide)) (fun g X ad0 => E_XSearch_addWord (g := g) (X := X) (Z := (ad0, M, res, Mf, 0, 0)) (Nat.le_refl _) (Nat.le_refl _) h)
