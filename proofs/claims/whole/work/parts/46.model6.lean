theorem d_XModel_failing_0 : decode Y_XModel_failing.2.1 0 = .ok (.iconst 0, 1) := by decide +kernel
theorem d_XModel_failing_1 : decode Y_XModel_failing.2.1 1 = .ok (.istore_n 2, 1) := by decide +kernel
theorem d_XModel_failing_2 : decode Y_XModel_failing.2.1 2 = .ok (.iload_n 2, 1) := by decide +kernel
theorem d_XModel_failing_3 : decode Y_XModel_failing.2.1 3 = .ok (.aload_n 0, 1) := by decide +kernel
theorem d_XModel_failing_4 : decode Y_XModel_failing.2.1 4 = .ok (.getfield 155, 3) := by decide +kernel
theorem d_XModel_failing_7 : decode Y_XModel_failing.2.1 7 = .ok (.if_icmp .ge (25), 3) := by decide +kernel
theorem d_XModel_failing_10 : decode Y_XModel_failing.2.1 10 = .ok (.aload_n 0, 1) := by decide +kernel
theorem d_XModel_failing_11 : decode Y_XModel_failing.2.1 11 = .ok (.getfield 66, 3) := by decide +kernel
theorem d_XModel_failing_14 : decode Y_XModel_failing.2.1 14 = .ok (.aload_n 0, 1) := by decide +kernel
theorem d_XModel_failing_15 : decode Y_XModel_failing.2.1 15 = .ok (.getfield 48, 3) := by decide +kernel
theorem d_XModel_failing_18 : decode Y_XModel_failing.2.1 18 = .ok (.iload_n 2, 1) := by decide +kernel
theorem d_XModel_failing_19 : decode Y_XModel_failing.2.1 19 = .ok (.iaload, 1) := by decide +kernel
theorem d_XModel_failing_20 : decode Y_XModel_failing.2.1 20 = .ok (.iaload, 1) := by decide +kernel
theorem d_XModel_failing_21 : decode Y_XModel_failing.2.1 21 = .ok (.ifCond .ne (5), 3) := by decide +kernel
theorem d_XModel_failing_24 : decode Y_XModel_failing.2.1 24 = .ok (.iconst (-1), 1) := by decide +kernel
theorem d_XModel_failing_25 : decode Y_XModel_failing.2.1 25 = .ok (.ireturn, 1) := by decide +kernel
theorem d_XModel_failing_26 : decode Y_XModel_failing.2.1 26 = .ok (.iinc 2 (1), 3) := by decide +kernel
theorem d_XModel_failing_29 : decode Y_XModel_failing.2.1 29 = .ok (.goto (-27), 3) := by decide +kernel
theorem d_XModel_failing_32 : decode Y_XModel_failing.2.1 32 = .ok (.iload_n 1, 1) := by decide +kernel
theorem d_XModel_failing_33 : decode Y_XModel_failing.2.1 33 = .ok (.ifCond .lt (19), 3) := by decide +kernel
theorem d_XModel_failing_36 : decode Y_XModel_failing.2.1 36 = .ok (.aload_n 0, 1) := by decide +kernel
theorem d_XModel_failing_37 : decode Y_XModel_failing.2.1 37 = .ok (.getfield 66, 3) := by decide +kernel
theorem d_XModel_failing_40 : decode Y_XModel_failing.2.1 40 = .ok (.iload_n 1, 1) := by decide +kernel
theorem d_XModel_failing_41 : decode Y_XModel_failing.2.1 41 = .ok (.iaload, 1) := by decide +kernel
theorem d_XModel_failing_42 : decode Y_XModel_failing.2.1 42 = .ok (.ifCond .ne (8), 3) := by decide +kernel
theorem d_XModel_failing_45 : decode Y_XModel_failing.2.1 45 = .ok (.bipush (16), 2) := by decide +kernel
theorem d_XModel_failing_47 : decode Y_XModel_failing.2.1 47 = .ok (.goto (4), 3) := by decide +kernel
theorem d_XModel_failing_50 : decode Y_XModel_failing.2.1 50 = .ok (.iconst (-1), 1) := by decide +kernel
theorem d_XModel_failing_51 : decode Y_XModel_failing.2.1 51 = .ok (.ireturn, 1) := by decide +kernel
theorem d_XModel_failing_52 : decode Y_XModel_failing.2.1 52 = .ok (.iconst 0, 1) := by decide +kernel
theorem d_XModel_failing_53 : decode Y_XModel_failing.2.1 53 = .ok (.istore_n 2, 1) := by decide +kernel
theorem d_XModel_failing_54 : decode Y_XModel_failing.2.1 54 = .ok (.iload_n 2, 1) := by decide +kernel
theorem d_XModel_failing_55 : decode Y_XModel_failing.2.1 55 = .ok (.aload_n 0, 1) := by decide +kernel
theorem d_XModel_failing_56 : decode Y_XModel_failing.2.1 56 = .ok (.getfield 119, 3) := by decide +kernel
theorem d_XModel_failing_59 : decode Y_XModel_failing.2.1 59 = .ok (.if_icmp .ge (45), 3) := by decide +kernel
theorem d_XModel_failing_62 : decode Y_XModel_failing.2.1 62 = .ok (.aload_n 0, 1) := by decide +kernel
theorem d_XModel_failing_63 : decode Y_XModel_failing.2.1 63 = .ok (.getfield 45, 3) := by decide +kernel
theorem d_XModel_failing_66 : decode Y_XModel_failing.2.1 66 = .ok (.iload_n 2, 1) := by decide +kernel
theorem d_XModel_failing_67 : decode Y_XModel_failing.2.1 67 = .ok (.baload, 1) := by decide +kernel
theorem d_XModel_failing_68 : decode Y_XModel_failing.2.1 68 = .ok (.ifCond .eq (30), 3) := by decide +kernel
theorem d_XModel_failing_71 : decode Y_XModel_failing.2.1 71 = .ok (.aload_n 0, 1) := by decide +kernel
theorem d_XModel_failing_72 : decode Y_XModel_failing.2.1 72 = .ok (.getfield 66, 3) := by decide +kernel
theorem d_XModel_failing_75 : decode Y_XModel_failing.2.1 75 = .ok (.aload_n 0, 1) := by decide +kernel
theorem d_XModel_failing_76 : decode Y_XModel_failing.2.1 76 = .ok (.getfield 57, 3) := by decide +kernel
theorem d_XModel_failing_79 : decode Y_XModel_failing.2.1 79 = .ok (.iload_n 2, 1) := by decide +kernel
theorem d_XModel_failing_80 : decode Y_XModel_failing.2.1 80 = .ok (.iaload, 1) := by decide +kernel
theorem d_XModel_failing_81 : decode Y_XModel_failing.2.1 81 = .ok (.iaload, 1) := by decide +kernel
theorem d_XModel_failing_82 : decode Y_XModel_failing.2.1 82 = .ok (.aload_n 0, 1) := by decide +kernel
theorem d_XModel_failing_83 : decode Y_XModel_failing.2.1 83 = .ok (.getfield 66, 3) := by decide +kernel
theorem d_XModel_failing_86 : decode Y_XModel_failing.2.1 86 = .ok (.aload_n 0, 1) := by decide +kernel
theorem d_XModel_failing_87 : decode Y_XModel_failing.2.1 87 = .ok (.getfield 60, 3) := by decide +kernel
theorem d_XModel_failing_90 : decode Y_XModel_failing.2.1 90 = .ok (.iload_n 2, 1) := by decide +kernel
theorem d_XModel_failing_91 : decode Y_XModel_failing.2.1 91 = .ok (.iaload, 1) := by decide +kernel
theorem d_XModel_failing_92 : decode Y_XModel_failing.2.1 92 = .ok (.iaload, 1) := by decide +kernel
theorem d_XModel_failing_93 : decode Y_XModel_failing.2.1 93 = .ok (.if_icmp .eq (5), 3) := by decide +kernel
theorem d_XModel_failing_96 : decode Y_XModel_failing.2.1 96 = .ok (.iload_n 2, 1) := by decide +kernel
theorem d_XModel_failing_97 : decode Y_XModel_failing.2.1 97 = .ok (.ireturn, 1) := by decide +kernel
theorem d_XModel_failing_98 : decode Y_XModel_failing.2.1 98 = .ok (.iinc 2 (1), 3) := by decide +kernel
theorem d_XModel_failing_101 : decode Y_XModel_failing.2.1 101 = .ok (.goto (-47), 3) := by decide +kernel
theorem d_XModel_failing_104 : decode Y_XModel_failing.2.1 104 = .ok (.iconst (-1), 1) := by decide +kernel
theorem d_XModel_failing_105 : decode Y_XModel_failing.2.1 105 = .ok (.ireturn, 1) := by decide +kernel
def F_XModel_failing_51 (n : Nat) (s0 : Int32) (M : PM) : qO :=
  some (.inl (some (.int s0)), M)
set_option maxHeartbeats 4000000 in
set_option maxRecDepth 100000 in
theorem E_XModel_failing_51 {g : qG} {X : qX} {Z : qZ} (hn : 0 ≤ zn Z) (hl : 0 ≤ zl Z) {n : Nat} {s0 : Int32} {M : PM} (h : F_XModel_failing_51 n s0 M = some (zr Z, zf Z)) : EW Y_XModel_failing g X Z 51 [] [.int s0] M := by
  unfold F_XModel_failing_51 at h
  obtain ⟨hz, hm⟩ := Prod.mk.inj (Option.some.inj h)
  exact ew_ireturn d_XModel_failing_51 rfl hz.symm hm.symm
def F_XModel_failing_98 (n : Nat) (rec54 : Nat → Int32 → PM → qO) (l0 : Nat) (l2 : Int32) (M : PM) : qO :=
  bI (l2 + (1 : Int32)) (fun v1 =>
  rec54 l0 v1 M)
set_option maxHeartbeats 4000000 in
set_option maxRecDepth 100000 in
theorem E_XModel_failing_98 {g : qG} {X : qX} {Z : qZ} (hn : 0 ≤ zn Z) (hl : 0 ≤ zl Z) {n : Nat} {rec54 : Nat → Int32 → PM → qO} (hrec54 : ∀ (l0 : Nat) (l2 : Int32) (M : PM), rec54 l0 l2 M = some (zr Z, zf Z) → EW Y_XModel_failing g X Z 54 [(0, .ref l0), (2, .int l2)] [] M) {l0 : Nat} {l2 : Int32} {M : PM} (h : F_XModel_failing_98 n rec54 l0 l2 M = some (zr Z, zf Z)) : EW Y_XModel_failing g X Z 98 [(0, .ref l0), (2, .int l2)] [] M := by
  unfold F_XModel_failing_98 at h
  obtain ⟨v1, ev1, h⟩ := bI_inv h
  refine ew_iinc (L' := [(0, .ref l0), (2, .int v1)]) v1 [1, 0] d_XModel_failing_98 rfl (by rw [ev1]; rfl) (by decide) rfl ?_
  refine ew_goto 54 d_XModel_failing_101 (by decide) ?_
  exact hrec54 l0 v1 M h
def F_XModel_failing_54 (n : Nat) : Nat → Nat → Int32 → PM → qO
  | 0, _, _, _ => none
  | f + 1, l0, l2, M =>
    gI 0 M l0 9 (fun v1 =>
    if v1 ≤ l2 then
      some (.inl (some (.int (-1 : Int32))), M)
    else
      gR 0 M l0 15 (fun v3 =>
      lZ M v3 l2 (fun v4 =>
      if v4 = (0 : Int32) then
        F_XModel_failing_98 n (F_XModel_failing_54 n f) l0 l2 M
      else
        gR 0 M l0 22 (fun v6 =>
        gR 0 M l0 19 (fun v7 =>
        lI M v7 l2 (fun v8 =>
        lI M v6 v8 (fun v9 =>
        gR 0 M l0 22 (fun v10 =>
        gR 0 M l0 20 (fun v11 =>
        lI M v11 l2 (fun v12 =>
        lI M v10 v12 (fun v13 =>
        if v9 = v13 then
          F_XModel_failing_98 n (F_XModel_failing_54 n f) l0 l2 M
        else
          some (.inl (some (.int l2)), M))))))))))))
set_option maxHeartbeats 4000000 in
set_option maxRecDepth 100000 in
theorem E_XModel_failing_54 {g : qG} {X : qX} {Z : qZ} (hn : 0 ≤ zn Z) (hl : 0 ≤ zl Z) {n : Nat} : ∀ (f : Nat) (l0 : Nat) (l2 : Int32) (M : PM), F_XModel_failing_54 n f l0 l2 M = some (zr Z, zf Z) → EW Y_XModel_failing g X Z 54 [(0, .ref l0), (2, .int l2)] [] M := by
  intro f
  induction f with
  | zero => intro l0 l2 M h; rw [F_XModel_failing_54] at h; cases h
  | succ f ih =>
    intro l0 l2 M h
    rw [F_XModel_failing_54] at h
    refine ew_iload_n 2 d_XModel_failing_54 rfl rfl ?_
    refine ew_aload_n 0 d_XModel_failing_55 rfl rfl ?_
    obtain ⟨v1, av1, bv1, h⟩ := gI_inv h
    refine ew_gI 0 9 d_XModel_failing_56 fl_XModel_119 av1 bv1 ?_
    refine ew_icmp_ge 104 d_XModel_failing_59 (by decide) (fun c2 => ?_) (fun c2 => ?_)
    · rw [if_pos c2] at h
      refine ew_iconst (-1) d_XModel_failing_104 (by decide) ?_
      obtain ⟨hz, hm⟩ := Prod.mk.inj (Option.some.inj h)
      exact ew_ireturn d_XModel_failing_105 rfl hz.symm hm.symm
    · rw [if_neg c2] at h
      refine ew_aload_n 0 d_XModel_failing_62 rfl rfl ?_
      obtain ⟨v3, av3, bv3, h⟩ := gR_inv h
      refine ew_gR 0 15 d_XModel_failing_63 fl_XModel_45 av3 bv3 ?_
      refine ew_iload_n 2 d_XModel_failing_66 rfl rfl ?_
      obtain ⟨v4, av4, bv4, cv4, ev4, h⟩ := lZ_inv h
      refine ew_lZ d_XModel_failing_67 av4 bv4 cv4 ev4 ?_
      refine ew_if_eq 98 d_XModel_failing_68 (by decide) (fun c5 => ?_) (fun c5 => ?_)
      · rw [if_pos c5] at h
        exact E_XModel_failing_98 hn hl ih h
      · rw [if_neg c5] at h
        refine ew_aload_n 0 d_XModel_failing_71 rfl rfl ?_
        obtain ⟨v6, av6, bv6, h⟩ := gR_inv h
        refine ew_gR 0 22 d_XModel_failing_72 fl_XModel_66 av6 bv6 ?_
        refine ew_aload_n 0 d_XModel_failing_75 rfl rfl ?_
        obtain ⟨v7, av7, bv7, h⟩ := gR_inv h
        refine ew_gR 0 19 d_XModel_failing_76 fl_XModel_57 av7 bv7 ?_
        refine ew_iload_n 2 d_XModel_failing_79 rfl rfl ?_
        obtain ⟨v8, av8, bv8, cv8, ev8, h⟩ := lI_inv h
        refine ew_lI d_XModel_failing_80 av8 bv8 cv8 ev8 ?_
        obtain ⟨v9, av9, bv9, cv9, ev9, h⟩ := lI_inv h
        refine ew_lI d_XModel_failing_81 av9 bv9 cv9 ev9 ?_
        refine ew_aload_n 0 d_XModel_failing_82 rfl rfl ?_
        obtain ⟨v10, av10, bv10, h⟩ := gR_inv h
        refine ew_gR 0 22 d_XModel_failing_83 fl_XModel_66 av10 bv10 ?_
        refine ew_aload_n 0 d_XModel_failing_86 rfl rfl ?_
        obtain ⟨v11, av11, bv11, h⟩ := gR_inv h
        refine ew_gR 0 20 d_XModel_failing_87 fl_XModel_60 av11 bv11 ?_
        refine ew_iload_n 2 d_XModel_failing_90 rfl rfl ?_
        obtain ⟨v12, av12, bv12, cv12, ev12, h⟩ := lI_inv h
        refine ew_lI d_XModel_failing_91 av12 bv12 cv12 ev12 ?_
        obtain ⟨v13, av13, bv13, cv13, ev13, h⟩ := lI_inv h
        refine ew_lI d_XModel_failing_92 av13 bv13 cv13 ev13 ?_
        refine ew_icmp_eq 98 d_XModel_failing_93 (by decide) (fun c14 => ?_) (fun c14 => ?_)
        · rw [if_pos c14] at h
          exact E_XModel_failing_98 hn hl ih h
        · rw [if_neg c14] at h
          refine ew_iload_n 2 d_XModel_failing_96 rfl rfl ?_
          obtain ⟨hz, hm⟩ := Prod.mk.inj (Option.some.inj h)
          exact ew_ireturn d_XModel_failing_97 rfl hz.symm hm.symm
def F_XModel_failing_2 (n : Nat) : Nat → Nat → Int32 → Int32 → PM → qO
  | 0, _, _, _, _ => none
  | f + 1, l0, l1, l2, M =>
    gI 0 M l0 10 (fun v1 =>
    if v1 ≤ l2 then
      if l1 < (0 : Int32) then
        F_XModel_failing_54 n n l0 (0 : Int32) M
      else
        gR 0 M l0 22 (fun v4 =>
        lI M v4 l1 (fun v5 =>
        if v5 = (0 : Int32) then
          F_XModel_failing_51 n (16 : Int32) M
        else
          F_XModel_failing_51 n (-1 : Int32) M))
    else
      gR 0 M l0 22 (fun v7 =>
      gR 0 M l0 16 (fun v8 =>
      lI M v8 l2 (fun v9 =>
      lI M v7 v9 (fun v10 =>
      if v10 = (0 : Int32) then
        some (.inl (some (.int (-1 : Int32))), M)
      else
        bI (l2 + (1 : Int32)) (fun v12 =>
        (F_XModel_failing_2 n f) l0 l1 v12 M))))))
set_option maxHeartbeats 4000000 in
set_option maxRecDepth 100000 in
theorem E_XModel_failing_2 {g : qG} {X : qX} {Z : qZ} (hn : 0 ≤ zn Z) (hl : 0 ≤ zl Z) {n : Nat} : ∀ (f : Nat) (l0 : Nat) (l1 : Int32) (l2 : Int32) (M : PM), F_XModel_failing_2 n f l0 l1 l2 M = some (zr Z, zf Z) → EW Y_XModel_failing g X Z 2 [(0, .ref l0), (1, .int l1), (2, .int l2)] [] M := by
  intro f
  induction f with
  | zero => intro l0 l1 l2 M h; rw [F_XModel_failing_2] at h; cases h
  | succ f ih =>
    intro l0 l1 l2 M h
    rw [F_XModel_failing_2] at h
    refine ew_iload_n 2 d_XModel_failing_2 rfl rfl ?_
    refine ew_aload_n 0 d_XModel_failing_3 rfl rfl ?_
    obtain ⟨v1, av1, bv1, h⟩ := gI_inv h
    refine ew_gI 0 10 d_XModel_failing_4 fl_XModel_155 av1 bv1 ?_
    refine ew_icmp_ge 32 d_XModel_failing_7 (by decide) (fun c2 => ?_) (fun c2 => ?_)
    · rw [if_pos c2] at h
      refine ew_iload_n 1 d_XModel_failing_32 rfl rfl ?_
      refine ew_if_lt 52 d_XModel_failing_33 (by decide) (fun c3 => ?_) (fun c3 => ?_)
      · rw [if_pos c3] at h
        refine ew_iconst (0) d_XModel_failing_52 (by decide) ?_
        refine ew_istore_n (L' := [(0, .ref l0), (1, .int l1), (2, .int (0 : Int32))]) 2 [1, 2, 0] d_XModel_failing_53 rfl (by decide) rfl ?_
        exact ew_pick (L' := [(0, .ref l0), (2, .int (0 : Int32))]) [0, 2] rfl (E_XModel_failing_54 hn hl n l0 (0 : Int32) M h)
      · rw [if_neg c3] at h
        refine ew_aload_n 0 d_XModel_failing_36 rfl rfl ?_
        obtain ⟨v4, av4, bv4, h⟩ := gR_inv h
        refine ew_gR 0 22 d_XModel_failing_37 fl_XModel_66 av4 bv4 ?_
        refine ew_iload_n 1 d_XModel_failing_40 rfl rfl ?_
        obtain ⟨v5, av5, bv5, cv5, ev5, h⟩ := lI_inv h
        refine ew_lI d_XModel_failing_41 av5 bv5 cv5 ev5 ?_
        refine ew_if_ne 50 d_XModel_failing_42 (by decide) (fun c6 => ?_) (fun c6 => ?_)
        · rw [if_neg c6] at h
          refine ew_iconst (-1) d_XModel_failing_50 (by decide) ?_
          exact ew_pick (L' := []) [] rfl (E_XModel_failing_51 hn hl h)
        · rw [if_pos c6] at h
          refine ew_bipush (16) d_XModel_failing_45 (by decide +kernel) ?_
          refine ew_goto 51 d_XModel_failing_47 (by decide) ?_
          exact ew_pick (L' := []) [] rfl (E_XModel_failing_51 hn hl h)
    · rw [if_neg c2] at h
      refine ew_aload_n 0 d_XModel_failing_10 rfl rfl ?_
      obtain ⟨v7, av7, bv7, h⟩ := gR_inv h
      refine ew_gR 0 22 d_XModel_failing_11 fl_XModel_66 av7 bv7 ?_
      refine ew_aload_n 0 d_XModel_failing_14 rfl rfl ?_
      obtain ⟨v8, av8, bv8, h⟩ := gR_inv h
      refine ew_gR 0 16 d_XModel_failing_15 fl_XModel_48 av8 bv8 ?_
      refine ew_iload_n 2 d_XModel_failing_18 rfl rfl ?_
      obtain ⟨v9, av9, bv9, cv9, ev9, h⟩ := lI_inv h
      refine ew_lI d_XModel_failing_19 av9 bv9 cv9 ev9 ?_
      obtain ⟨v10, av10, bv10, cv10, ev10, h⟩ := lI_inv h
      refine ew_lI d_XModel_failing_20 av10 bv10 cv10 ev10 ?_
      refine ew_if_ne 26 d_XModel_failing_21 (by decide) (fun c11 => ?_) (fun c11 => ?_)
      · rw [if_neg c11] at h
        obtain ⟨v12, ev12, h⟩ := bI_inv h
        refine ew_iinc (L' := [(0, .ref l0), (1, .int l1), (2, .int v12)]) v12 [1, 2, 0] d_XModel_failing_26 rfl (by rw [ev12]; rfl) (by decide) rfl ?_
        refine ew_goto 2 d_XModel_failing_29 (by decide) ?_
        exact ih l0 l1 v12 M h
      · rw [if_pos c11] at h
        refine ew_iconst (-1) d_XModel_failing_24 (by decide) ?_
        obtain ⟨hz, hm⟩ := Prod.mk.inj (Option.some.inj h)
        exact ew_ireturn d_XModel_failing_25 rfl hz.symm hm.symm
def F_XModel_failing (n : Nat) (l0 : Nat) (l1 : Int32) (M : PM) : qO :=
  F_XModel_failing_2 n n l0 l1 (0 : Int32) M
set_option maxHeartbeats 4000000 in
set_option maxRecDepth 100000 in
theorem E_XModel_failing {g : qG} {X : qX} {Z : qZ} (hn : 0 ≤ zn Z) (hl : 0 ≤ zl Z) {n : Nat} {l0 : Nat} {l1 : Int32} {M : PM} (h : F_XModel_failing n l0 l1 M = some (zr Z, zf Z)) : EW Y_XModel_failing g X Z 0 [(0, .ref l0), (1, .int l1)] [] M := by
  unfold F_XModel_failing at h
  refine ew_iconst (0) d_XModel_failing_0 (by decide) ?_
  refine ew_istore_n (L' := [(0, .ref l0), (1, .int l1), (2, .int (0 : Int32))]) 2 [1, 2, 0] d_XModel_failing_1 rfl (by decide) rfl ?_
  exact E_XModel_failing_2 hn hl n l0 l1 (0 : Int32) M h
theorem T_XModel_failing {n : Nat} {l0 : Nat} {l1 : Int32} {M Mf : PM} {res : qRs} (h : F_XModel_failing n l0 l1 M = some (res, Mf)) : CT Y_XModel_failing 0 0 [.ref l0, .int l1] M res Mf :=
  CT_of (by decide) (Nat.le_of_ble_eq_true rfl) (qHd_ne (by decide)) (fun g X ad0 => E_XModel_failing (g := g) (X := X) (Z := (ad0, M, res, Mf, 0, 0)) (Nat.le_refl _) (Nat.le_refl _) h)
theorem d_XModel_goesOn_0 : decode Y_XModel_goesOn.2.1 0 = .ok (.iload_n 2, 1) := by decide +kernel
theorem d_XModel_goesOn_1 : decode Y_XModel_goesOn.2.1 1 = .ok (.iconst 1, 1) := by decide +kernel
theorem d_XModel_goesOn_2 : decode Y_XModel_goesOn.2.1 2 = .ok (.isub, 1) := by decide +kernel
theorem d_XModel_goesOn_3 : decode Y_XModel_goesOn.2.1 3 = .ok (.istore_n 3, 1) := by decide +kernel
theorem d_XModel_goesOn_4 : decode Y_XModel_goesOn.2.1 4 = .ok (.iload_n 3, 1) := by decide +kernel
theorem d_XModel_goesOn_5 : decode Y_XModel_goesOn.2.1 5 = .ok (.iload_n 1, 1) := by decide +kernel
theorem d_XModel_goesOn_6 : decode Y_XModel_goesOn.2.1 6 = .ok (.if_icmp .lt (101), 3) := by decide +kernel
theorem d_XModel_goesOn_9 : decode Y_XModel_goesOn.2.1 9 = .ok (.iconst (-1), 1) := by decide +kernel
theorem d_XModel_goesOn_10 : decode Y_XModel_goesOn.2.1 10 = .ok (.istore 4, 2) := by decide +kernel
theorem d_XModel_goesOn_12 : decode Y_XModel_goesOn.2.1 12 = .ok (.iconst 0, 1) := by decide +kernel
theorem d_XModel_goesOn_13 : decode Y_XModel_goesOn.2.1 13 = .ok (.istore 5, 2) := by decide +kernel
theorem d_XModel_goesOn_15 : decode Y_XModel_goesOn.2.1 15 = .ok (.iload 5, 2) := by decide +kernel
theorem d_XModel_goesOn_17 : decode Y_XModel_goesOn.2.1 17 = .ok (.iload_n 3, 1) := by decide +kernel
theorem d_XModel_goesOn_18 : decode Y_XModel_goesOn.2.1 18 = .ok (.if_icmp .ge (35), 3) := by decide +kernel
theorem d_XModel_goesOn_21 : decode Y_XModel_goesOn.2.1 21 = .ok (.aload_n 0, 1) := by decide +kernel
theorem d_XModel_goesOn_22 : decode Y_XModel_goesOn.2.1 22 = .ok (.getfield 72, 3) := by decide +kernel
theorem d_XModel_goesOn_25 : decode Y_XModel_goesOn.2.1 25 = .ok (.iload 5, 2) := by decide +kernel
theorem d_XModel_goesOn_27 : decode Y_XModel_goesOn.2.1 27 = .ok (.iaload, 1) := by decide +kernel
theorem d_XModel_goesOn_28 : decode Y_XModel_goesOn.2.1 28 = .ok (.iload 4, 2) := by decide +kernel
theorem d_XModel_goesOn_30 : decode Y_XModel_goesOn.2.1 30 = .ok (.if_icmp .le (13), 3) := by decide +kernel
theorem d_XModel_goesOn_33 : decode Y_XModel_goesOn.2.1 33 = .ok (.aload_n 0, 1) := by decide +kernel
theorem d_XModel_goesOn_34 : decode Y_XModel_goesOn.2.1 34 = .ok (.getfield 72, 3) := by decide +kernel
theorem d_XModel_goesOn_37 : decode Y_XModel_goesOn.2.1 37 = .ok (.iload 5, 2) := by decide +kernel
theorem d_XModel_goesOn_39 : decode Y_XModel_goesOn.2.1 39 = .ok (.iaload, 1) := by decide +kernel
theorem d_XModel_goesOn_40 : decode Y_XModel_goesOn.2.1 40 = .ok (.goto (5), 3) := by decide +kernel
theorem d_XModel_goesOn_43 : decode Y_XModel_goesOn.2.1 43 = .ok (.iload 4, 2) := by decide +kernel
theorem d_XModel_goesOn_45 : decode Y_XModel_goesOn.2.1 45 = .ok (.istore 4, 2) := by decide +kernel
theorem d_XModel_goesOn_47 : decode Y_XModel_goesOn.2.1 47 = .ok (.iinc 5 (1), 3) := by decide +kernel
theorem d_XModel_goesOn_50 : decode Y_XModel_goesOn.2.1 50 = .ok (.goto (-35), 3) := by decide +kernel
theorem d_XModel_goesOn_53 : decode Y_XModel_goesOn.2.1 53 = .ok (.aload_n 0, 1) := by decide +kernel
theorem d_XModel_goesOn_54 : decode Y_XModel_goesOn.2.1 54 = .ok (.getfield 72, 3) := by decide +kernel
theorem d_XModel_goesOn_57 : decode Y_XModel_goesOn.2.1 57 = .ok (.iload_n 3, 1) := by decide +kernel
theorem d_XModel_goesOn_58 : decode Y_XModel_goesOn.2.1 58 = .ok (.iaload, 1) := by decide +kernel
theorem d_XModel_goesOn_59 : decode Y_XModel_goesOn.2.1 59 = .ok (.iload 4, 2) := by decide +kernel
theorem d_XModel_goesOn_61 : decode Y_XModel_goesOn.2.1 61 = .ok (.if_icmp .gt (40), 3) := by decide +kernel
theorem d_XModel_goesOn_64 : decode Y_XModel_goesOn.2.1 64 = .ok (.aload_n 0, 1) := by decide +kernel
theorem d_XModel_goesOn_65 : decode Y_XModel_goesOn.2.1 65 = .ok (.getfield 72, 3) := by decide +kernel
theorem d_XModel_goesOn_68 : decode Y_XModel_goesOn.2.1 68 = .ok (.iload_n 3, 1) := by decide +kernel
theorem d_XModel_goesOn_69 : decode Y_XModel_goesOn.2.1 69 = .ok (.dup2, 1) := by decide +kernel
theorem d_XModel_goesOn_70 : decode Y_XModel_goesOn.2.1 70 = .ok (.iaload, 1) := by decide +kernel
theorem d_XModel_goesOn_71 : decode Y_XModel_goesOn.2.1 71 = .ok (.iconst 1, 1) := by decide +kernel
theorem d_XModel_goesOn_72 : decode Y_XModel_goesOn.2.1 72 = .ok (.iadd, 1) := by decide +kernel
theorem d_XModel_goesOn_73 : decode Y_XModel_goesOn.2.1 73 = .ok (.iastore, 1) := by decide +kernel
theorem d_XModel_goesOn_74 : decode Y_XModel_goesOn.2.1 74 = .ok (.iload_n 3, 1) := by decide +kernel
theorem d_XModel_goesOn_75 : decode Y_XModel_goesOn.2.1 75 = .ok (.iconst 1, 1) := by decide +kernel
theorem d_XModel_goesOn_76 : decode Y_XModel_goesOn.2.1 76 = .ok (.iadd, 1) := by decide +kernel
theorem d_XModel_goesOn_77 : decode Y_XModel_goesOn.2.1 77 = .ok (.istore 5, 2) := by decide +kernel
theorem d_XModel_goesOn_79 : decode Y_XModel_goesOn.2.1 79 = .ok (.iload 5, 2) := by decide +kernel
theorem d_XModel_goesOn_81 : decode Y_XModel_goesOn.2.1 81 = .ok (.iload_n 2, 1) := by decide +kernel
theorem d_XModel_goesOn_82 : decode Y_XModel_goesOn.2.1 82 = .ok (.if_icmp .ge (17), 3) := by decide +kernel
theorem d_XModel_goesOn_85 : decode Y_XModel_goesOn.2.1 85 = .ok (.aload_n 0, 1) := by decide +kernel
theorem d_XModel_goesOn_86 : decode Y_XModel_goesOn.2.1 86 = .ok (.getfield 72, 3) := by decide +kernel
theorem d_XModel_goesOn_89 : decode Y_XModel_goesOn.2.1 89 = .ok (.iload 5, 2) := by decide +kernel
theorem d_XModel_goesOn_91 : decode Y_XModel_goesOn.2.1 91 = .ok (.iconst 0, 1) := by decide +kernel
theorem d_XModel_goesOn_92 : decode Y_XModel_goesOn.2.1 92 = .ok (.iastore, 1) := by decide +kernel
theorem d_XModel_goesOn_93 : decode Y_XModel_goesOn.2.1 93 = .ok (.iinc 5 (1), 3) := by decide +kernel
theorem d_XModel_goesOn_96 : decode Y_XModel_goesOn.2.1 96 = .ok (.goto (-17), 3) := by decide +kernel
theorem d_XModel_goesOn_99 : decode Y_XModel_goesOn.2.1 99 = .ok (.iconst 1, 1) := by decide +kernel
theorem d_XModel_goesOn_100 : decode Y_XModel_goesOn.2.1 100 = .ok (.ireturn, 1) := by decide +kernel
theorem d_XModel_goesOn_101 : decode Y_XModel_goesOn.2.1 101 = .ok (.iinc 3 (-1), 3) := by decide +kernel
theorem d_XModel_goesOn_104 : decode Y_XModel_goesOn.2.1 104 = .ok (.goto (-100), 3) := by decide +kernel
theorem d_XModel_goesOn_107 : decode Y_XModel_goesOn.2.1 107 = .ok (.iconst 0, 1) := by decide +kernel
theorem d_XModel_goesOn_108 : decode Y_XModel_goesOn.2.1 108 = .ok (.ireturn, 1) := by decide +kernel
def F_XModel_goesOn_45 (n : Nat) (rec4 : Nat → Int32 → Int32 → Int32 → PM → qO) (rec15 : Nat → Int32 → Int32 → Int32 → Int32 → Int32 → PM → qO) (l0 : Nat) (l1 : Int32) (l2 : Int32) (l3 : Int32) (l5 : Int32) (s0 : Int32) (M : PM) : qO :=
  bI (l5 + (1 : Int32)) (fun v1 =>
  rec15 l0 l1 l2 l3 s0 v1 M)
set_option maxHeartbeats 4000000 in
set_option maxRecDepth 100000 in
theorem E_XModel_goesOn_45 {g : qG} {X : qX} {Z : qZ} (hn : 0 ≤ zn Z) (hl : 0 ≤ zl Z) {n : Nat} {rec4 : Nat → Int32 → Int32 → Int32 → PM → qO} {rec15 : Nat → Int32 → Int32 → Int32 → Int32 → Int32 → PM → qO} (hrec4 : ∀ (l0 : Nat) (l1 : Int32) (l2 : Int32) (l3 : Int32) (M : PM), rec4 l0 l1 l2 l3 M = some (zr Z, zf Z) → EW Y_XModel_goesOn g X Z 4 [(0, .ref l0), (1, .int l1), (2, .int l2), (3, .int l3)] [] M) (hrec15 : ∀ (l0 : Nat) (l1 : Int32) (l2 : Int32) (l3 : Int32) (l4 : Int32) (l5 : Int32) (M : PM), rec15 l0 l1 l2 l3 l4 l5 M = some (zr Z, zf Z) → EW Y_XModel_goesOn g X Z 15 [(0, .ref l0), (1, .int l1), (2, .int l2), (3, .int l3), (4, .int l4), (5, .int l5)] [] M) {l0 : Nat} {l1 : Int32} {l2 : Int32} {l3 : Int32} {l5 : Int32} {s0 : Int32} {M : PM} (h : F_XModel_goesOn_45 n rec4 rec15 l0 l1 l2 l3 l5 s0 M = some (zr Z, zf Z)) : EW Y_XModel_goesOn g X Z 45 [(0, .ref l0), (1, .int l1), (2, .int l2), (3, .int l3), (5, .int l5)] [.int s0] M := by
  unfold F_XModel_goesOn_45 at h
  refine ew_istore (L' := [(0, .ref l0), (1, .int l1), (2, .int l2), (3, .int l3), (4, .int s0), (5, .int l5)]) [1, 2, 3, 4, 0, 5] d_XModel_goesOn_45 (by decide) rfl ?_
  obtain ⟨v1, ev1, h⟩ := bI_inv h
  refine ew_iinc (L' := [(0, .ref l0), (1, .int l1), (2, .int l2), (3, .int l3), (4, .int s0), (5, .int v1)]) v1 [1, 2, 3, 4, 5, 0] d_XModel_goesOn_47 rfl (by rw [ev1]; rfl) (by decide) rfl ?_
  refine ew_goto 15 d_XModel_goesOn_50 (by decide) ?_
  exact hrec15 l0 l1 l2 l3 s0 v1 M h
def F_XModel_goesOn_79 (n : Nat) : Nat → Nat → Int32 → Int32 → PM → qO
  | 0, _, _, _, _ => none
  | f + 1, l0, l2, l5, M =>
    if l2 ≤ l5 then
      some (.inl (some (.int (1 : Int32))), M)
    else
      gR 0 M l0 27 (fun v2 =>
      wI M v2 l5 (0 : Int32) (fun M3 =>
      bI (l5 + (1 : Int32)) (fun v4 =>
      (F_XModel_goesOn_79 n f) l0 l2 v4 M3)))
set_option maxHeartbeats 4000000 in
set_option maxRecDepth 100000 in
theorem E_XModel_goesOn_79 {g : qG} {X : qX} {Z : qZ} (hn : 0 ≤ zn Z) (hl : 0 ≤ zl Z) {n : Nat} : ∀ (f : Nat) (l0 : Nat) (l2 : Int32) (l5 : Int32) (M : PM), F_XModel_goesOn_79 n f l0 l2 l5 M = some (zr Z, zf Z) → EW Y_XModel_goesOn g X Z 79 [(0, .ref l0), (2, .int l2), (5, .int l5)] [] M := by
  intro f
  induction f with
  | zero => intro l0 l2 l5 M h; rw [F_XModel_goesOn_79] at h; cases h
  | succ f ih =>
    intro l0 l2 l5 M h
    rw [F_XModel_goesOn_79] at h
    refine ew_iload d_XModel_goesOn_79 rfl ?_
    refine ew_iload_n 2 d_XModel_goesOn_81 rfl rfl ?_
    refine ew_icmp_ge 99 d_XModel_goesOn_82 (by decide) (fun c1 => ?_) (fun c1 => ?_)
    · rw [if_pos c1] at h
      refine ew_iconst (1) d_XModel_goesOn_99 (by decide) ?_
      obtain ⟨hz, hm⟩ := Prod.mk.inj (Option.some.inj h)
      exact ew_zreturn d_XModel_goesOn_100 rfl hz.symm hm.symm rfl
    · rw [if_neg c1] at h
      refine ew_aload_n 0 d_XModel_goesOn_85 rfl rfl ?_
      obtain ⟨v2, av2, bv2, h⟩ := gR_inv h
      refine ew_gR 0 27 d_XModel_goesOn_86 fl_XModel_72 av2 bv2 ?_
      refine ew_iload d_XModel_goesOn_89 rfl ?_
      refine ew_iconst (0) d_XModel_goesOn_91 (by decide) ?_
      obtain ⟨M3, aM3, bM3, cM3, eM3, h⟩ := wI_inv h
      refine ew_wI d_XModel_goesOn_92 aM3 bM3 cM3 eM3 ?_
      obtain ⟨v4, ev4, h⟩ := bI_inv h
      refine ew_iinc (L' := [(0, .ref l0), (2, .int l2), (5, .int v4)]) v4 [1, 2, 0] d_XModel_goesOn_93 rfl (by rw [ev4]; rfl) (by decide) rfl ?_
      refine ew_goto 79 d_XModel_goesOn_96 (by decide) ?_
      exact ih l0 l2 v4 M3 h
def F_XModel_goesOn_15 (n : Nat) (rec4 : Nat → Int32 → Int32 → Int32 → PM → qO) : Nat → Nat → Int32 → Int32 → Int32 → Int32 → Int32 → PM → qO
  | 0, _, _, _, _, _, _, _ => none
  | f + 1, l0, l1, l2, l3, l4, l5, M =>
    if l3 ≤ l5 then
      gR 0 M l0 27 (fun v2 =>
      lI M v2 l3 (fun v3 =>
      if l4 < v3 then
        bI (l3 + (-1 : Int32)) (fun v5 =>
        rec4 l0 l1 l2 v5 M)
      else
        gR 0 M l0 27 (fun v6 =>
        lI M v6 l3 (fun v7 =>
        wI M v6 l3 (v7 + (1 : Int32)) (fun M8 =>
        bI (l3 + (1 : Int32)) (fun v9 =>
        F_XModel_goesOn_79 n n l0 l2 v9 M8))))))
    else
      gR 0 M l0 27 (fun v10 =>
      lI M v10 l5 (fun v11 =>
      if v11 ≤ l4 then
        F_XModel_goesOn_45 n rec4 (F_XModel_goesOn_15 n rec4 f) l0 l1 l2 l3 l5 l4 M
      else
        gR 0 M l0 27 (fun v13 =>
        lI M v13 l5 (fun v14 =>
        F_XModel_goesOn_45 n rec4 (F_XModel_goesOn_15 n rec4 f) l0 l1 l2 l3 l5 v14 M))))
set_option maxHeartbeats 4000000 in
set_option maxRecDepth 100000 in
theorem E_XModel_goesOn_15 {g : qG} {X : qX} {Z : qZ} (hn : 0 ≤ zn Z) (hl : 0 ≤ zl Z) {n : Nat} {rec4 : Nat → Int32 → Int32 → Int32 → PM → qO} (hrec4 : ∀ (l0 : Nat) (l1 : Int32) (l2 : Int32) (l3 : Int32) (M : PM), rec4 l0 l1 l2 l3 M = some (zr Z, zf Z) → EW Y_XModel_goesOn g X Z 4 [(0, .ref l0), (1, .int l1), (2, .int l2), (3, .int l3)] [] M) : ∀ (f : Nat) (l0 : Nat) (l1 : Int32) (l2 : Int32) (l3 : Int32) (l4 : Int32) (l5 : Int32) (M : PM), F_XModel_goesOn_15 n rec4 f l0 l1 l2 l3 l4 l5 M = some (zr Z, zf Z) → EW Y_XModel_goesOn g X Z 15 [(0, .ref l0), (1, .int l1), (2, .int l2), (3, .int l3), (4, .int l4), (5, .int l5)] [] M := by
  intro f
  induction f with
  | zero => intro l0 l1 l2 l3 l4 l5 M h; rw [F_XModel_goesOn_15] at h; cases h
  | succ f ih =>
    intro l0 l1 l2 l3 l4 l5 M h
    rw [F_XModel_goesOn_15] at h
    refine ew_iload d_XModel_goesOn_15 rfl ?_
    refine ew_iload_n 3 d_XModel_goesOn_17 rfl rfl ?_
    refine ew_icmp_ge 53 d_XModel_goesOn_18 (by decide) (fun c1 => ?_) (fun c1 => ?_)
    · rw [if_pos c1] at h
      refine ew_aload_n 0 d_XModel_goesOn_53 rfl rfl ?_
      obtain ⟨v2, av2, bv2, h⟩ := gR_inv h
      refine ew_gR 0 27 d_XModel_goesOn_54 fl_XModel_72 av2 bv2 ?_
      refine ew_iload_n 3 d_XModel_goesOn_57 rfl rfl ?_
      obtain ⟨v3, av3, bv3, cv3, ev3, h⟩ := lI_inv h
      refine ew_lI d_XModel_goesOn_58 av3 bv3 cv3 ev3 ?_
      refine ew_iload d_XModel_goesOn_59 rfl ?_
      refine ew_icmp_gt 101 d_XModel_goesOn_61 (by decide) (fun c4 => ?_) (fun c4 => ?_)
      · rw [if_pos c4] at h
        obtain ⟨v5, ev5, h⟩ := bI_inv h
        refine ew_iinc (L' := [(0, .ref l0), (1, .int l1), (2, .int l2), (3, .int v5), (4, .int l4), (5, .int l5)]) v5 [1, 2, 3, 0, 4, 5] d_XModel_goesOn_101 rfl (by rw [ev5]; rfl) (by decide) rfl ?_
        refine ew_goto 4 d_XModel_goesOn_104 (by decide) ?_
        exact ew_pick (L' := [(0, .ref l0), (1, .int l1), (2, .int l2), (3, .int v5)]) [0, 1, 2, 3] rfl (hrec4 l0 l1 l2 v5 M h)
      · rw [if_neg c4] at h
        refine ew_aload_n 0 d_XModel_goesOn_64 rfl rfl ?_
        obtain ⟨v6, av6, bv6, h⟩ := gR_inv h
        refine ew_gR 0 27 d_XModel_goesOn_65 fl_XModel_72 av6 bv6 ?_
        refine ew_iload_n 3 d_XModel_goesOn_68 rfl rfl ?_
        refine ew_dup2 d_XModel_goesOn_69 rfl rfl ?_
        obtain ⟨v7, av7, bv7, cv7, ev7, h⟩ := lI_inv h
        refine ew_lI d_XModel_goesOn_70 av7 bv7 cv7 ev7 ?_
        refine ew_iconst (1) d_XModel_goesOn_71 (by decide) ?_
        refine ew_iadd d_XModel_goesOn_72 ?_
        obtain ⟨M8, aM8, bM8, cM8, eM8, h⟩ := wI_inv h
        refine ew_wI d_XModel_goesOn_73 aM8 bM8 cM8 eM8 ?_
        refine ew_iload_n 3 d_XModel_goesOn_74 rfl rfl ?_
        refine ew_iconst (1) d_XModel_goesOn_75 (by decide) ?_
        refine ew_iadd d_XModel_goesOn_76 ?_
        obtain ⟨v9, ev9, h⟩ := bI_inv h
        refine ew_topI ev9 ?_
        refine ew_istore (L' := [(0, .ref l0), (1, .int l1), (2, .int l2), (3, .int l3), (4, .int l4), (5, .int v9)]) [1, 2, 3, 4, 5, 0] d_XModel_goesOn_77 (by decide) rfl ?_
        exact ew_pick (L' := [(0, .ref l0), (2, .int l2), (5, .int v9)]) [0, 2, 5] rfl (E_XModel_goesOn_79 hn hl n l0 l2 v9 M8 h)
    · rw [if_neg c1] at h
      refine ew_aload_n 0 d_XModel_goesOn_21 rfl rfl ?_
      obtain ⟨v10, av10, bv10, h⟩ := gR_inv h
      refine ew_gR 0 27 d_XModel_goesOn_22 fl_XModel_72 av10 bv10 ?_
      refine ew_iload d_XModel_goesOn_25 rfl ?_
      obtain ⟨v11, av11, bv11, cv11, ev11, h⟩ := lI_inv h
      refine ew_lI d_XModel_goesOn_27 av11 bv11 cv11 ev11 ?_
      refine ew_iload d_XModel_goesOn_28 rfl ?_
      refine ew_icmp_le 43 d_XModel_goesOn_30 (by decide) (fun c12 => ?_) (fun c12 => ?_)
      · rw [if_pos c12] at h
        refine ew_iload d_XModel_goesOn_43 rfl ?_
        exact ew_pick (L' := [(0, .ref l0), (1, .int l1), (2, .int l2), (3, .int l3), (5, .int l5)]) [0, 1, 2, 3, 5] rfl (E_XModel_goesOn_45 hn hl hrec4 ih h)
      · rw [if_neg c12] at h
        refine ew_aload_n 0 d_XModel_goesOn_33 rfl rfl ?_
        obtain ⟨v13, av13, bv13, h⟩ := gR_inv h
        refine ew_gR 0 27 d_XModel_goesOn_34 fl_XModel_72 av13 bv13 ?_
        refine ew_iload d_XModel_goesOn_37 rfl ?_
        obtain ⟨v14, av14, bv14, cv14, ev14, h⟩ := lI_inv h
        refine ew_lI d_XModel_goesOn_39 av14 bv14 cv14 ev14 ?_
        refine ew_goto 45 d_XModel_goesOn_40 (by decide) ?_
        exact ew_pick (L' := [(0, .ref l0), (1, .int l1), (2, .int l2), (3, .int l3), (5, .int l5)]) [0, 1, 2, 3, 5] rfl (E_XModel_goesOn_45 hn hl hrec4 ih h)
def F_XModel_goesOn_4 (n : Nat) : Nat → Nat → Int32 → Int32 → Int32 → PM → qO
  | 0, _, _, _, _, _ => none
  | f + 1, l0, l1, l2, l3, M =>
    if l3 < l1 then
      some (.inl (some (.int (0 : Int32))), M)
    else
      F_XModel_goesOn_15 n (F_XModel_goesOn_4 n f) n l0 l1 l2 l3 (-1 : Int32) (0 : Int32) M
set_option maxHeartbeats 4000000 in
set_option maxRecDepth 100000 in
theorem E_XModel_goesOn_4 {g : qG} {X : qX} {Z : qZ} (hn : 0 ≤ zn Z) (hl : 0 ≤ zl Z) {n : Nat} : ∀ (f : Nat) (l0 : Nat) (l1 : Int32) (l2 : Int32) (l3 : Int32) (M : PM), F_XModel_goesOn_4 n f l0 l1 l2 l3 M = some (zr Z, zf Z) → EW Y_XModel_goesOn g X Z 4 [(0, .ref l0), (1, .int l1), (2, .int l2), (3, .int l3)] [] M := by
  intro f
  induction f with
  | zero => intro l0 l1 l2 l3 M h; rw [F_XModel_goesOn_4] at h; cases h
  | succ f ih =>
    intro l0 l1 l2 l3 M h
    rw [F_XModel_goesOn_4] at h
    refine ew_iload_n 3 d_XModel_goesOn_4 rfl rfl ?_
    refine ew_iload_n 1 d_XModel_goesOn_5 rfl rfl ?_
    refine ew_icmp_lt 107 d_XModel_goesOn_6 (by decide) (fun c1 => ?_) (fun c1 => ?_)
    · rw [if_pos c1] at h
      refine ew_iconst (0) d_XModel_goesOn_107 (by decide) ?_
      obtain ⟨hz, hm⟩ := Prod.mk.inj (Option.some.inj h)
      exact ew_zreturn d_XModel_goesOn_108 rfl hz.symm hm.symm rfl
    · rw [if_neg c1] at h
      refine ew_iconst (-1) d_XModel_goesOn_9 (by decide) ?_
      refine ew_istore (L' := [(0, .ref l0), (1, .int l1), (2, .int l2), (3, .int l3), (4, .int (-1 : Int32))]) [1, 2, 3, 4, 0] d_XModel_goesOn_10 (by decide) rfl ?_
      refine ew_iconst (0) d_XModel_goesOn_12 (by decide) ?_
      refine ew_istore (L' := [(0, .ref l0), (1, .int l1), (2, .int l2), (3, .int l3), (4, .int (-1 : Int32)), (5, .int (0 : Int32))]) [1, 2, 3, 4, 5, 0] d_XModel_goesOn_13 (by decide) rfl ?_
      exact E_XModel_goesOn_15 hn hl ih n l0 l1 l2 l3 (-1 : Int32) (0 : Int32) M h
def F_XModel_goesOn (n : Nat) (l0 : Nat) (l1 : Int32) (l2 : Int32) (M : PM) : qO :=
  bI (l2 - (1 : Int32)) (fun v1 =>
  F_XModel_goesOn_4 n n l0 l1 l2 v1 M)
set_option maxHeartbeats 4000000 in
set_option maxRecDepth 100000 in
theorem E_XModel_goesOn {g : qG} {X : qX} {Z : qZ} (hn : 0 ≤ zn Z) (hl : 0 ≤ zl Z) {n : Nat} {l0 : Nat} {l1 : Int32} {l2 : Int32} {M : PM} (h : F_XModel_goesOn n l0 l1 l2 M = some (zr Z, zf Z)) : EW Y_XModel_goesOn g X Z 0 [(0, .ref l0), (1, .int l1), (2, .int l2)] [] M := by
  unfold F_XModel_goesOn at h
  refine ew_iload_n 2 d_XModel_goesOn_0 rfl rfl ?_
  refine ew_iconst (1) d_XModel_goesOn_1 (by decide) ?_
  refine ew_isub d_XModel_goesOn_2 ?_
  obtain ⟨v1, ev1, h⟩ := bI_inv h
  refine ew_topI ev1 ?_
  refine ew_istore_n (L' := [(0, .ref l0), (1, .int l1), (2, .int l2), (3, .int v1)]) 3 [1, 2, 3, 0] d_XModel_goesOn_3 rfl (by decide) rfl ?_
  exact E_XModel_goesOn_4 hn hl n l0 l1 l2 v1 M h
theorem T_XModel_goesOn {n : Nat} {l0 : Nat} {l1 : Int32} {l2 : Int32} {M Mf : PM} {res : qRs} (h : F_XModel_goesOn n l0 l1 l2 M = some (res, Mf)) : CT Y_XModel_goesOn 0 0 [.ref l0, .int l1, .int l2] M res Mf :=
  CT_of (by decide) (Nat.le_of_ble_eq_true rfl) (qHd_ne (by decide)) (fun g X ad0 => E_XModel_goesOn (g := g) (X := X) (Z := (ad0, M, res, Mf, 0, 0)) (Nat.le_refl _) (Nat.le_refl _) h)
theorem d_XModel_failsWith_0 : decode Y_XModel_failsWith.2.1 0 = .ok (.iconst (-1), 1) := by decide +kernel
theorem d_XModel_failsWith_1 : decode Y_XModel_failsWith.2.1 1 = .ok (.istore_n 2, 1) := by decide +kernel
theorem d_XModel_failsWith_2 : decode Y_XModel_failsWith.2.1 2 = .ok (.aload_n 0, 1) := by decide +kernel
theorem d_XModel_failsWith_3 : decode Y_XModel_failsWith.2.1 3 = .ok (.getfield 164, 3) := by decide +kernel
theorem d_XModel_failsWith_6 : decode Y_XModel_failsWith.2.1 6 = .ok (.istore_n 3, 1) := by decide +kernel
theorem d_XModel_failsWith_7 : decode Y_XModel_failsWith.2.1 7 = .ok (.iload_n 3, 1) := by decide +kernel
theorem d_XModel_failsWith_8 : decode Y_XModel_failsWith.2.1 8 = .ok (.aload_n 0, 1) := by decide +kernel
theorem d_XModel_failsWith_9 : decode Y_XModel_failsWith.2.1 9 = .ok (.getfield 164, 3) := by decide +kernel
theorem d_XModel_failsWith_12 : decode Y_XModel_failsWith.2.1 12 = .ok (.aload_n 0, 1) := by decide +kernel
theorem d_XModel_failsWith_13 : decode Y_XModel_failsWith.2.1 13 = .ok (.getfield 176, 3) := by decide +kernel
theorem d_XModel_failsWith_16 : decode Y_XModel_failsWith.2.1 16 = .ok (.iadd, 1) := by decide +kernel
theorem d_XModel_failsWith_17 : decode Y_XModel_failsWith.2.1 17 = .ok (.if_icmp .ge (16), 3) := by decide +kernel
theorem d_XModel_failsWith_20 : decode Y_XModel_failsWith.2.1 20 = .ok (.aload_n 0, 1) := by decide +kernel
theorem d_XModel_failsWith_21 : decode Y_XModel_failsWith.2.1 21 = .ok (.getfield 72, 3) := by decide +kernel
theorem d_XModel_failsWith_24 : decode Y_XModel_failsWith.2.1 24 = .ok (.iload_n 3, 1) := by decide +kernel
theorem d_XModel_failsWith_25 : decode Y_XModel_failsWith.2.1 25 = .ok (.iconst 0, 1) := by decide +kernel
theorem d_XModel_failsWith_26 : decode Y_XModel_failsWith.2.1 26 = .ok (.iastore, 1) := by decide +kernel
theorem d_XModel_failsWith_27 : decode Y_XModel_failsWith.2.1 27 = .ok (.iinc 3 (1), 3) := by decide +kernel
theorem d_XModel_failsWith_30 : decode Y_XModel_failsWith.2.1 30 = .ok (.goto (-23), 3) := by decide +kernel
theorem d_XModel_failsWith_33 : decode Y_XModel_failsWith.2.1 33 = .ok (.iconst 1, 1) := by decide +kernel
theorem d_XModel_failsWith_34 : decode Y_XModel_failsWith.2.1 34 = .ok (.istore_n 3, 1) := by decide +kernel
theorem d_XModel_failsWith_35 : decode Y_XModel_failsWith.2.1 35 = .ok (.iload_n 3, 1) := by decide +kernel
theorem d_XModel_failsWith_36 : decode Y_XModel_failsWith.2.1 36 = .ok (.ifCond .eq (110), 3) := by decide +kernel
theorem d_XModel_failsWith_39 : decode Y_XModel_failsWith.2.1 39 = .ok (.iconst 0, 1) := by decide +kernel
theorem d_XModel_failsWith_40 : decode Y_XModel_failsWith.2.1 40 = .ok (.istore 4, 2) := by decide +kernel
theorem d_XModel_failsWith_42 : decode Y_XModel_failsWith.2.1 42 = .ok (.iload 4, 2) := by decide +kernel
theorem d_XModel_failsWith_44 : decode Y_XModel_failsWith.2.1 44 = .ok (.aload_n 0, 1) := by decide +kernel
theorem d_XModel_failsWith_45 : decode Y_XModel_failsWith.2.1 45 = .ok (.getfield 164, 3) := by decide +kernel
theorem d_XModel_failsWith_48 : decode Y_XModel_failsWith.2.1 48 = .ok (.aload_n 0, 1) := by decide +kernel
theorem d_XModel_failsWith_49 : decode Y_XModel_failsWith.2.1 49 = .ok (.getfield 176, 3) := by decide +kernel
theorem d_XModel_failsWith_52 : decode Y_XModel_failsWith.2.1 52 = .ok (.iadd, 1) := by decide +kernel
theorem d_XModel_failsWith_53 : decode Y_XModel_failsWith.2.1 53 = .ok (.if_icmp .ge (28), 3) := by decide +kernel
theorem d_XModel_failsWith_56 : decode Y_XModel_failsWith.2.1 56 = .ok (.aload_n 0, 1) := by decide +kernel
theorem d_XModel_failsWith_57 : decode Y_XModel_failsWith.2.1 57 = .ok (.getfield 66, 3) := by decide +kernel
theorem d_XModel_failsWith_60 : decode Y_XModel_failsWith.2.1 60 = .ok (.aload_n 0, 1) := by decide +kernel
theorem d_XModel_failsWith_61 : decode Y_XModel_failsWith.2.1 61 = .ok (.getfield 69, 3) := by decide +kernel
theorem d_XModel_failsWith_64 : decode Y_XModel_failsWith.2.1 64 = .ok (.iload 4, 2) := by decide +kernel
theorem d_XModel_failsWith_66 : decode Y_XModel_failsWith.2.1 66 = .ok (.iaload, 1) := by decide +kernel
theorem d_XModel_failsWith_67 : decode Y_XModel_failsWith.2.1 67 = .ok (.aload_n 0, 1) := by decide +kernel
theorem d_XModel_failsWith_68 : decode Y_XModel_failsWith.2.1 68 = .ok (.getfield 72, 3) := by decide +kernel
theorem d_XModel_failsWith_71 : decode Y_XModel_failsWith.2.1 71 = .ok (.iload 4, 2) := by decide +kernel
theorem d_XModel_failsWith_73 : decode Y_XModel_failsWith.2.1 73 = .ok (.iaload, 1) := by decide +kernel
theorem d_XModel_failsWith_74 : decode Y_XModel_failsWith.2.1 74 = .ok (.iastore, 1) := by decide +kernel
theorem d_XModel_failsWith_75 : decode Y_XModel_failsWith.2.1 75 = .ok (.iinc 4 (1), 3) := by decide +kernel
theorem d_XModel_failsWith_78 : decode Y_XModel_failsWith.2.1 78 = .ok (.goto (-36), 3) := by decide +kernel
theorem d_XModel_failsWith_81 : decode Y_XModel_failsWith.2.1 81 = .ok (.aload_n 0, 1) := by decide +kernel
theorem d_XModel_failsWith_82 : decode Y_XModel_failsWith.2.1 82 = .ok (.invokevirtual 179, 3) := by decide +kernel
theorem d_XModel_failsWith_85 : decode Y_XModel_failsWith.2.1 85 = .ok (.aload_n 0, 1) := by decide +kernel
theorem d_XModel_failsWith_86 : decode Y_XModel_failsWith.2.1 86 = .ok (.invokevirtual 182, 3) := by decide +kernel
theorem d_XModel_failsWith_89 : decode Y_XModel_failsWith.2.1 89 = .ok (.ifCond .eq (11), 3) := by decide +kernel
theorem d_XModel_failsWith_92 : decode Y_XModel_failsWith.2.1 92 = .ok (.aload_n 0, 1) := by decide +kernel
theorem d_XModel_failsWith_93 : decode Y_XModel_failsWith.2.1 93 = .ok (.iload_n 1, 1) := by decide +kernel
theorem d_XModel_failsWith_94 : decode Y_XModel_failsWith.2.1 94 = .ok (.invokevirtual 186, 3) := by decide +kernel
theorem d_XModel_failsWith_97 : decode Y_XModel_failsWith.2.1 97 = .ok (.goto (4), 3) := by decide +kernel
theorem d_XModel_failsWith_100 : decode Y_XModel_failsWith.2.1 100 = .ok (.iconst (-1), 1) := by decide +kernel
theorem d_XModel_failsWith_101 : decode Y_XModel_failsWith.2.1 101 = .ok (.istore 4, 2) := by decide +kernel
theorem d_XModel_failsWith_103 : decode Y_XModel_failsWith.2.1 103 = .ok (.iload 4, 2) := by decide +kernel
theorem d_XModel_failsWith_105 : decode Y_XModel_failsWith.2.1 105 = .ok (.ifCond .lt (18), 3) := by decide +kernel
theorem d_XModel_failsWith_108 : decode Y_XModel_failsWith.2.1 108 = .ok (.iload_n 2, 1) := by decide +kernel
theorem d_XModel_failsWith_109 : decode Y_XModel_failsWith.2.1 109 = .ok (.ifCond .lt (9), 3) := by decide +kernel
theorem d_XModel_failsWith_112 : decode Y_XModel_failsWith.2.1 112 = .ok (.iload 4, 2) := by decide +kernel
theorem d_XModel_failsWith_114 : decode Y_XModel_failsWith.2.1 114 = .ok (.iload_n 2, 1) := by decide +kernel
theorem d_XModel_failsWith_115 : decode Y_XModel_failsWith.2.1 115 = .ok (.if_icmp .ge (8), 3) := by decide +kernel
theorem d_XModel_failsWith_118 : decode Y_XModel_failsWith.2.1 118 = .ok (.iload 4, 2) := by decide +kernel
theorem d_XModel_failsWith_120 : decode Y_XModel_failsWith.2.1 120 = .ok (.goto (4), 3) := by decide +kernel
theorem d_XModel_failsWith_123 : decode Y_XModel_failsWith.2.1 123 = .ok (.iload_n 2, 1) := by decide +kernel
theorem d_XModel_failsWith_124 : decode Y_XModel_failsWith.2.1 124 = .ok (.istore_n 2, 1) := by decide +kernel
theorem d_XModel_failsWith_125 : decode Y_XModel_failsWith.2.1 125 = .ok (.aload_n 0, 1) := by decide +kernel
theorem d_XModel_failsWith_126 : decode Y_XModel_failsWith.2.1 126 = .ok (.aload_n 0, 1) := by decide +kernel
theorem d_XModel_failsWith_127 : decode Y_XModel_failsWith.2.1 127 = .ok (.getfield 164, 3) := by decide +kernel
theorem d_XModel_failsWith_130 : decode Y_XModel_failsWith.2.1 130 = .ok (.aload_n 0, 1) := by decide +kernel
theorem d_XModel_failsWith_131 : decode Y_XModel_failsWith.2.1 131 = .ok (.getfield 164, 3) := by decide +kernel
theorem d_XModel_failsWith_134 : decode Y_XModel_failsWith.2.1 134 = .ok (.aload_n 0, 1) := by decide +kernel
theorem d_XModel_failsWith_135 : decode Y_XModel_failsWith.2.1 135 = .ok (.getfield 176, 3) := by decide +kernel
theorem d_XModel_failsWith_138 : decode Y_XModel_failsWith.2.1 138 = .ok (.iadd, 1) := by decide +kernel
theorem d_XModel_failsWith_139 : decode Y_XModel_failsWith.2.1 139 = .ok (.invokevirtual 189, 3) := by decide +kernel
theorem d_XModel_failsWith_142 : decode Y_XModel_failsWith.2.1 142 = .ok (.istore_n 3, 1) := by decide +kernel
theorem d_XModel_failsWith_143 : decode Y_XModel_failsWith.2.1 143 = .ok (.goto (-108), 3) := by decide +kernel
theorem d_XModel_failsWith_146 : decode Y_XModel_failsWith.2.1 146 = .ok (.iload_n 2, 1) := by decide +kernel
theorem d_XModel_failsWith_147 : decode Y_XModel_failsWith.2.1 147 = .ok (.ireturn, 1) := by decide +kernel
def F_XModel_failsWith_124 (n : Nat) (rec35 : Nat → Int32 → Int32 → Int32 → PM → qO) (l0 : Nat) (l1 : Int32) (s0 : Int32) (M : PM) : qO :=
  gI 0 M l0 23 (fun v1 =>
  gI 0 M l0 23 (fun v2 =>
  gI 0 M l0 24 (fun v3 =>
  kO 0 M l0 (
  cI (F_XModel_goesOn n l0 v1 (v2 + v3) M) (fun v5 M4 =>
  rec35 l0 l1 s0 v5 M4)))))
set_option maxHeartbeats 4000000 in
set_option maxRecDepth 100000 in
theorem E_XModel_failsWith_124 {g : qG} {X : qX} {Z : qZ} (hn : 1 ≤ zn Z) (hl : 26 ≤ zl Z) {n : Nat} {rec35 : Nat → Int32 → Int32 → Int32 → PM → qO} (hrec35 : ∀ (l0 : Nat) (l1 : Int32) (l2 : Int32) (l3 : Int32) (M : PM), rec35 l0 l1 l2 l3 M = some (zr Z, zf Z) → EW Y_XModel_failsWith g X Z 35 [(0, .ref l0), (1, .int l1), (2, .int l2), (3, .int l3)] [] M) {l0 : Nat} {l1 : Int32} {s0 : Int32} {M : PM} (h : F_XModel_failsWith_124 n rec35 l0 l1 s0 M = some (zr Z, zf Z)) : EW Y_XModel_failsWith g X Z 124 [(0, .ref l0), (1, .int l1)] [.int s0] M := by
  unfold F_XModel_failsWith_124 at h
  refine ew_istore_n (L' := [(0, .ref l0), (1, .int l1), (2, .int s0)]) 2 [1, 2, 0] d_XModel_failsWith_124 rfl (by decide) rfl ?_
  refine ew_aload_n 0 d_XModel_failsWith_125 rfl rfl ?_
  refine ew_aload_n 0 d_XModel_failsWith_126 rfl rfl ?_
  obtain ⟨v1, av1, bv1, h⟩ := gI_inv h
  refine ew_gI 0 23 d_XModel_failsWith_127 fl_XModel_164 av1 bv1 ?_
  refine ew_aload_n 0 d_XModel_failsWith_130 rfl rfl ?_
  obtain ⟨v2, av2, bv2, h⟩ := gI_inv h
  refine ew_gI 0 23 d_XModel_failsWith_131 fl_XModel_164 av2 bv2 ?_
  refine ew_aload_n 0 d_XModel_failsWith_134 rfl rfl ?_
  obtain ⟨v3, av3, bv3, h⟩ := gI_inv h
  refine ew_gI 0 24 d_XModel_failsWith_135 fl_XModel_176 av3 bv3 ?_
  refine ew_iadd d_XModel_failsWith_138 ?_
  obtain ⟨kM4, h⟩ := kO_inv h
  obtain ⟨v5, M4, hM4, h⟩ := cI_inv h
  refine ew_callV 0 [.int v1, .int (v2 + v3)] d_XModel_failsWith_139 cv_XModel_189 (T_XModel_goesOn hM4) kM4 (Nat.le_trans (Nat.le_of_ble_eq_true rfl) hn) (Nat.le_trans (Nat.le_of_ble_eq_true rfl) hl) (Nat.le_of_ble_eq_true rfl) rfl rfl ?_
  refine ew_istore_n (L' := [(0, .ref l0), (1, .int l1), (2, .int s0), (3, .int v5)]) 3 [1, 2, 3, 0] d_XModel_failsWith_142 rfl (by decide) rfl ?_
  refine ew_goto 35 d_XModel_failsWith_143 (by decide) ?_
  exact hrec35 l0 l1 s0 v5 M4 h
def F_XModel_failsWith_123 (n : Nat) (rec35 : Nat → Int32 → Int32 → Int32 → PM → qO) (l0 : Nat) (l1 : Int32) (l2 : Int32) (M : PM) : qO :=
  F_XModel_failsWith_124 n rec35 l0 l1 l2 M
set_option maxHeartbeats 4000000 in
set_option maxRecDepth 100000 in
theorem E_XModel_failsWith_123 {g : qG} {X : qX} {Z : qZ} (hn : 1 ≤ zn Z) (hl : 26 ≤ zl Z) {n : Nat} {rec35 : Nat → Int32 → Int32 → Int32 → PM → qO} (hrec35 : ∀ (l0 : Nat) (l1 : Int32) (l2 : Int32) (l3 : Int32) (M : PM), rec35 l0 l1 l2 l3 M = some (zr Z, zf Z) → EW Y_XModel_failsWith g X Z 35 [(0, .ref l0), (1, .int l1), (2, .int l2), (3, .int l3)] [] M) {l0 : Nat} {l1 : Int32} {l2 : Int32} {M : PM} (h : F_XModel_failsWith_123 n rec35 l0 l1 l2 M = some (zr Z, zf Z)) : EW Y_XModel_failsWith g X Z 123 [(0, .ref l0), (1, .int l1), (2, .int l2)] [] M := by
  unfold F_XModel_failsWith_123 at h
  refine ew_iload_n 2 d_XModel_failsWith_123 rfl rfl ?_
  exact ew_pick (L' := [(0, .ref l0), (1, .int l1)]) [0, 1] rfl (E_XModel_failsWith_124 hn hl hrec35 h)
def F_XModel_failsWith_118 (n : Nat) (rec35 : Nat → Int32 → Int32 → Int32 → PM → qO) (l0 : Nat) (l1 : Int32) (l4 : Int32) (M : PM) : qO :=
  F_XModel_failsWith_124 n rec35 l0 l1 l4 M
set_option maxHeartbeats 4000000 in
set_option maxRecDepth 100000 in
theorem E_XModel_failsWith_118 {g : qG} {X : qX} {Z : qZ} (hn : 1 ≤ zn Z) (hl : 26 ≤ zl Z) {n : Nat} {rec35 : Nat → Int32 → Int32 → Int32 → PM → qO} (hrec35 : ∀ (l0 : Nat) (l1 : Int32) (l2 : Int32) (l3 : Int32) (M : PM), rec35 l0 l1 l2 l3 M = some (zr Z, zf Z) → EW Y_XModel_failsWith g X Z 35 [(0, .ref l0), (1, .int l1), (2, .int l2), (3, .int l3)] [] M) {l0 : Nat} {l1 : Int32} {l4 : Int32} {M : PM} (h : F_XModel_failsWith_118 n rec35 l0 l1 l4 M = some (zr Z, zf Z)) : EW Y_XModel_failsWith g X Z 118 [(0, .ref l0), (1, .int l1), (4, .int l4)] [] M := by
  unfold F_XModel_failsWith_118 at h
  refine ew_iload d_XModel_failsWith_118 rfl ?_
  refine ew_goto 124 d_XModel_failsWith_120 (by decide) ?_
  exact ew_pick (L' := [(0, .ref l0), (1, .int l1)]) [0, 1] rfl (E_XModel_failsWith_124 hn hl hrec35 h)
def F_XModel_failsWith_101 (n : Nat) (rec35 : Nat → Int32 → Int32 → Int32 → PM → qO) (l0 : Nat) (l1 : Int32) (l2 : Int32) (s0 : Int32) (M : PM) : qO :=
  if s0 < (0 : Int32) then
    F_XModel_failsWith_123 n rec35 l0 l1 l2 M
  else
    if l2 < (0 : Int32) then
      F_XModel_failsWith_118 n rec35 l0 l1 s0 M
    else
      if l2 ≤ s0 then
        F_XModel_failsWith_123 n rec35 l0 l1 l2 M
      else
        F_XModel_failsWith_118 n rec35 l0 l1 s0 M
set_option maxHeartbeats 4000000 in
set_option maxRecDepth 100000 in
theorem E_XModel_failsWith_101 {g : qG} {X : qX} {Z : qZ} (hn : 1 ≤ zn Z) (hl : 26 ≤ zl Z) {n : Nat} {rec35 : Nat → Int32 → Int32 → Int32 → PM → qO} (hrec35 : ∀ (l0 : Nat) (l1 : Int32) (l2 : Int32) (l3 : Int32) (M : PM), rec35 l0 l1 l2 l3 M = some (zr Z, zf Z) → EW Y_XModel_failsWith g X Z 35 [(0, .ref l0), (1, .int l1), (2, .int l2), (3, .int l3)] [] M) {l0 : Nat} {l1 : Int32} {l2 : Int32} {s0 : Int32} {M : PM} (h : F_XModel_failsWith_101 n rec35 l0 l1 l2 s0 M = some (zr Z, zf Z)) : EW Y_XModel_failsWith g X Z 101 [(0, .ref l0), (1, .int l1), (2, .int l2)] [.int s0] M := by
  unfold F_XModel_failsWith_101 at h
  refine ew_istore (L' := [(0, .ref l0), (1, .int l1), (2, .int l2), (4, .int s0)]) [1, 2, 3, 0] d_XModel_failsWith_101 (by decide) rfl ?_
  refine ew_iload d_XModel_failsWith_103 rfl ?_
  refine ew_if_lt 123 d_XModel_failsWith_105 (by decide) (fun c1 => ?_) (fun c1 => ?_)
  · rw [if_pos c1] at h
    exact ew_pick (L' := [(0, .ref l0), (1, .int l1), (2, .int l2)]) [0, 1, 2] rfl (E_XModel_failsWith_123 hn hl hrec35 h)
  · rw [if_neg c1] at h
    refine ew_iload_n 2 d_XModel_failsWith_108 rfl rfl ?_
    refine ew_if_lt 118 d_XModel_failsWith_109 (by decide) (fun c2 => ?_) (fun c2 => ?_)
    · rw [if_pos c2] at h
      exact ew_pick (L' := [(0, .ref l0), (1, .int l1), (4, .int s0)]) [0, 1, 3] rfl (E_XModel_failsWith_118 hn hl hrec35 h)
    · rw [if_neg c2] at h
      refine ew_iload d_XModel_failsWith_112 rfl ?_
      refine ew_iload_n 2 d_XModel_failsWith_114 rfl rfl ?_
      refine ew_icmp_ge 123 d_XModel_failsWith_115 (by decide) (fun c3 => ?_) (fun c3 => ?_)
      · rw [if_pos c3] at h
        exact ew_pick (L' := [(0, .ref l0), (1, .int l1), (2, .int l2)]) [0, 1, 2] rfl (E_XModel_failsWith_123 hn hl hrec35 h)
      · rw [if_neg c3] at h
        exact ew_pick (L' := [(0, .ref l0), (1, .int l1), (4, .int s0)]) [0, 1, 3] rfl (E_XModel_failsWith_118 hn hl hrec35 h)
def F_XModel_failsWith_42 (n : Nat) (rec35 : Nat → Int32 → Int32 → Int32 → PM → qO) : Nat → Nat → Int32 → Int32 → Int32 → PM → qO
  | 0, _, _, _, _, _ => none
  | f + 1, l0, l1, l2, l4, M =>
    gI 0 M l0 23 (fun v1 =>
    gI 0 M l0 24 (fun v2 =>
    if (v1 + v2) ≤ l4 then
      kO 0 M l0 (
      cV (F_XModel_work n l0 M) (fun M4 =>
      kO 0 M4 l0 (
      cI (F_XModel_areFunctions n l0 M4) (fun v6 M5 =>
      if v6 = (0 : Int32) then
        F_XModel_failsWith_101 n rec35 l0 l1 l2 (-1 : Int32) M5
      else
        kO 0 M5 l0 (
        cI (F_XModel_failing n l0 l1 M5) (fun v9 M8 =>
        F_XModel_failsWith_101 n rec35 l0 l1 l2 v9 M8))))))
    else
      gR 0 M l0 22 (fun v10 =>
      gR 0 M l0 26 (fun v11 =>
      lI M v11 l4 (fun v12 =>
      gR 0 M l0 27 (fun v13 =>
      lI M v13 l4 (fun v14 =>
      wI M v10 v12 v14 (fun M15 =>
      bI (l4 + (1 : Int32)) (fun v16 =>
      (F_XModel_failsWith_42 n rec35 f) l0 l1 l2 v16 M15)))))))))
set_option maxHeartbeats 4000000 in
set_option maxRecDepth 100000 in
theorem E_XModel_failsWith_42 {g : qG} {X : qX} {Z : qZ} (hn : 1 ≤ zn Z) (hl : 26 ≤ zl Z) {n : Nat} {rec35 : Nat → Int32 → Int32 → Int32 → PM → qO} (hrec35 : ∀ (l0 : Nat) (l1 : Int32) (l2 : Int32) (l3 : Int32) (M : PM), rec35 l0 l1 l2 l3 M = some (zr Z, zf Z) → EW Y_XModel_failsWith g X Z 35 [(0, .ref l0), (1, .int l1), (2, .int l2), (3, .int l3)] [] M) : ∀ (f : Nat) (l0 : Nat) (l1 : Int32) (l2 : Int32) (l4 : Int32) (M : PM), F_XModel_failsWith_42 n rec35 f l0 l1 l2 l4 M = some (zr Z, zf Z) → EW Y_XModel_failsWith g X Z 42 [(0, .ref l0), (1, .int l1), (2, .int l2), (4, .int l4)] [] M := by
  intro f
  induction f with
  | zero => intro l0 l1 l2 l4 M h; rw [F_XModel_failsWith_42] at h; cases h
  | succ f ih =>
    intro l0 l1 l2 l4 M h
    rw [F_XModel_failsWith_42] at h
    refine ew_iload d_XModel_failsWith_42 rfl ?_
    refine ew_aload_n 0 d_XModel_failsWith_44 rfl rfl ?_
    obtain ⟨v1, av1, bv1, h⟩ := gI_inv h
    refine ew_gI 0 23 d_XModel_failsWith_45 fl_XModel_164 av1 bv1 ?_
    refine ew_aload_n 0 d_XModel_failsWith_48 rfl rfl ?_
    obtain ⟨v2, av2, bv2, h⟩ := gI_inv h
    refine ew_gI 0 24 d_XModel_failsWith_49 fl_XModel_176 av2 bv2 ?_
    refine ew_iadd d_XModel_failsWith_52 ?_
    refine ew_icmp_ge 81 d_XModel_failsWith_53 (by decide) (fun c3 => ?_) (fun c3 => ?_)
    · rw [if_pos c3] at h
      refine ew_aload_n 0 d_XModel_failsWith_81 rfl rfl ?_
      obtain ⟨kM4, h⟩ := kO_inv h
      obtain ⟨M4, hM4, h⟩ := cV_inv h
      refine ew_callV 0 [] d_XModel_failsWith_82 cv_XModel_179 (T_XModel_work hM4) kM4 (Nat.le_trans (Nat.le_of_ble_eq_true rfl) hn) (Nat.le_trans (Nat.le_of_ble_eq_true rfl) hl) (Nat.le_of_ble_eq_true rfl) rfl rfl ?_
      refine ew_aload_n 0 d_XModel_failsWith_85 rfl rfl ?_
      obtain ⟨kM5, h⟩ := kO_inv h
      obtain ⟨v6, M5, hM5, h⟩ := cI_inv h
      refine ew_callV 0 [] d_XModel_failsWith_86 cv_XModel_182 (T_XModel_areFunctions hM5) kM5 (Nat.le_trans (Nat.le_of_ble_eq_true rfl) hn) (Nat.le_trans (Nat.le_of_ble_eq_true rfl) hl) (Nat.le_of_ble_eq_true rfl) rfl rfl ?_
      refine ew_if_eq 100 d_XModel_failsWith_89 (by decide) (fun c7 => ?_) (fun c7 => ?_)
      · rw [if_pos c7] at h
        refine ew_iconst (-1) d_XModel_failsWith_100 (by decide) ?_
        exact ew_pick (L' := [(0, .ref l0), (1, .int l1), (2, .int l2)]) [0, 1, 2] rfl (E_XModel_failsWith_101 hn hl hrec35 h)
      · rw [if_neg c7] at h
        refine ew_aload_n 0 d_XModel_failsWith_92 rfl rfl ?_
        refine ew_iload_n 1 d_XModel_failsWith_93 rfl rfl ?_
        obtain ⟨kM8, h⟩ := kO_inv h
        obtain ⟨v9, M8, hM8, h⟩ := cI_inv h
        refine ew_callV 0 [.int l1] d_XModel_failsWith_94 cv_XModel_186 (T_XModel_failing hM8) kM8 (Nat.le_trans (Nat.le_of_ble_eq_true rfl) hn) (Nat.le_trans (Nat.le_of_ble_eq_true rfl) hl) (Nat.le_of_ble_eq_true rfl) rfl rfl ?_
        refine ew_goto 101 d_XModel_failsWith_97 (by decide) ?_
        exact ew_pick (L' := [(0, .ref l0), (1, .int l1), (2, .int l2)]) [0, 1, 2] rfl (E_XModel_failsWith_101 hn hl hrec35 h)
    · rw [if_neg c3] at h
      refine ew_aload_n 0 d_XModel_failsWith_56 rfl rfl ?_
      obtain ⟨v10, av10, bv10, h⟩ := gR_inv h
      refine ew_gR 0 22 d_XModel_failsWith_57 fl_XModel_66 av10 bv10 ?_
      refine ew_aload_n 0 d_XModel_failsWith_60 rfl rfl ?_
      obtain ⟨v11, av11, bv11, h⟩ := gR_inv h
      refine ew_gR 0 26 d_XModel_failsWith_61 fl_XModel_69 av11 bv11 ?_
      refine ew_iload d_XModel_failsWith_64 rfl ?_
      obtain ⟨v12, av12, bv12, cv12, ev12, h⟩ := lI_inv h
      refine ew_lI d_XModel_failsWith_66 av12 bv12 cv12 ev12 ?_
      refine ew_aload_n 0 d_XModel_failsWith_67 rfl rfl ?_
      obtain ⟨v13, av13, bv13, h⟩ := gR_inv h
      refine ew_gR 0 27 d_XModel_failsWith_68 fl_XModel_72 av13 bv13 ?_
      refine ew_iload d_XModel_failsWith_71 rfl ?_
      obtain ⟨v14, av14, bv14, cv14, ev14, h⟩ := lI_inv h
      refine ew_lI d_XModel_failsWith_73 av14 bv14 cv14 ev14 ?_
      obtain ⟨M15, aM15, bM15, cM15, eM15, h⟩ := wI_inv h
      refine ew_wI d_XModel_failsWith_74 aM15 bM15 cM15 eM15 ?_
      obtain ⟨v16, ev16, h⟩ := bI_inv h
      refine ew_iinc (L' := [(0, .ref l0), (1, .int l1), (2, .int l2), (4, .int v16)]) v16 [1, 2, 3, 0] d_XModel_failsWith_75 rfl (by rw [ev16]; rfl) (by decide) rfl ?_
      refine ew_goto 42 d_XModel_failsWith_78 (by decide) ?_
      exact ih l0 l1 l2 v16 M15 h
def F_XModel_failsWith_35 (n : Nat) : Nat → Nat → Int32 → Int32 → Int32 → PM → qO
  | 0, _, _, _, _, _ => none
  | f + 1, l0, l1, l2, l3, M =>
    if l3 = (0 : Int32) then
      some (.inl (some (.int l2)), M)
    else
      F_XModel_failsWith_42 n (F_XModel_failsWith_35 n f) n l0 l1 l2 (0 : Int32) M
set_option maxHeartbeats 4000000 in
set_option maxRecDepth 100000 in
theorem E_XModel_failsWith_35 {g : qG} {X : qX} {Z : qZ} (hn : 1 ≤ zn Z) (hl : 26 ≤ zl Z) {n : Nat} : ∀ (f : Nat) (l0 : Nat) (l1 : Int32) (l2 : Int32) (l3 : Int32) (M : PM), F_XModel_failsWith_35 n f l0 l1 l2 l3 M = some (zr Z, zf Z) → EW Y_XModel_failsWith g X Z 35 [(0, .ref l0), (1, .int l1), (2, .int l2), (3, .int l3)] [] M := by
  intro f
  induction f with
  | zero => intro l0 l1 l2 l3 M h; rw [F_XModel_failsWith_35] at h; cases h
  | succ f ih =>
    intro l0 l1 l2 l3 M h
    rw [F_XModel_failsWith_35] at h
    refine ew_iload_n 3 d_XModel_failsWith_35 rfl rfl ?_
    refine ew_if_eq 146 d_XModel_failsWith_36 (by decide) (fun c1 => ?_) (fun c1 => ?_)
    · rw [if_pos c1] at h
      refine ew_iload_n 2 d_XModel_failsWith_146 rfl rfl ?_
      obtain ⟨hz, hm⟩ := Prod.mk.inj (Option.some.inj h)
      exact ew_ireturn d_XModel_failsWith_147 rfl hz.symm hm.symm
    · rw [if_neg c1] at h
      refine ew_iconst (0) d_XModel_failsWith_39 (by decide) ?_
      refine ew_istore (L' := [(0, .ref l0), (1, .int l1), (2, .int l2), (3, .int l3), (4, .int (0 : Int32))]) [1, 2, 3, 4, 0] d_XModel_failsWith_40 (by decide) rfl ?_
      exact ew_pick (L' := [(0, .ref l0), (1, .int l1), (2, .int l2), (4, .int (0 : Int32))]) [0, 1, 2, 4] rfl (E_XModel_failsWith_42 hn hl ih n l0 l1 l2 (0 : Int32) M h)
def F_XModel_failsWith_7 (n : Nat) : Nat → Nat → Int32 → Int32 → Int32 → PM → qO
  | 0, _, _, _, _, _ => none
  | f + 1, l0, l1, l2, l3, M =>
    gI 0 M l0 23 (fun v1 =>
    gI 0 M l0 24 (fun v2 =>
    if (v1 + v2) ≤ l3 then
      F_XModel_failsWith_35 n n l0 l1 l2 (1 : Int32) M
    else
      gR 0 M l0 27 (fun v4 =>
      wI M v4 l3 (0 : Int32) (fun M5 =>
      bI (l3 + (1 : Int32)) (fun v6 =>
      (F_XModel_failsWith_7 n f) l0 l1 l2 v6 M5)))))
set_option maxHeartbeats 4000000 in
set_option maxRecDepth 100000 in
theorem E_XModel_failsWith_7 {g : qG} {X : qX} {Z : qZ} (hn : 1 ≤ zn Z) (hl : 26 ≤ zl Z) {n : Nat} : ∀ (f : Nat) (l0 : Nat) (l1 : Int32) (l2 : Int32) (l3 : Int32) (M : PM), F_XModel_failsWith_7 n f l0 l1 l2 l3 M = some (zr Z, zf Z) → EW Y_XModel_failsWith g X Z 7 [(0, .ref l0), (1, .int l1), (2, .int l2), (3, .int l3)] [] M := by
  intro f
  induction f with
  | zero => intro l0 l1 l2 l3 M h; rw [F_XModel_failsWith_7] at h; cases h
  | succ f ih =>
    intro l0 l1 l2 l3 M h
    rw [F_XModel_failsWith_7] at h
    refine ew_iload_n 3 d_XModel_failsWith_7 rfl rfl ?_
    refine ew_aload_n 0 d_XModel_failsWith_8 rfl rfl ?_
    obtain ⟨v1, av1, bv1, h⟩ := gI_inv h
    refine ew_gI 0 23 d_XModel_failsWith_9 fl_XModel_164 av1 bv1 ?_
    refine ew_aload_n 0 d_XModel_failsWith_12 rfl rfl ?_
    obtain ⟨v2, av2, bv2, h⟩ := gI_inv h
    refine ew_gI 0 24 d_XModel_failsWith_13 fl_XModel_176 av2 bv2 ?_
    refine ew_iadd d_XModel_failsWith_16 ?_
    refine ew_icmp_ge 33 d_XModel_failsWith_17 (by decide) (fun c3 => ?_) (fun c3 => ?_)
    · rw [if_pos c3] at h
      refine ew_iconst (1) d_XModel_failsWith_33 (by decide) ?_
      refine ew_istore_n (L' := [(0, .ref l0), (1, .int l1), (2, .int l2), (3, .int (1 : Int32))]) 3 [1, 2, 3, 0] d_XModel_failsWith_34 rfl (by decide) rfl ?_
      exact E_XModel_failsWith_35 hn hl n l0 l1 l2 (1 : Int32) M h
    · rw [if_neg c3] at h
      refine ew_aload_n 0 d_XModel_failsWith_20 rfl rfl ?_
      obtain ⟨v4, av4, bv4, h⟩ := gR_inv h
      refine ew_gR 0 27 d_XModel_failsWith_21 fl_XModel_72 av4 bv4 ?_
      refine ew_iload_n 3 d_XModel_failsWith_24 rfl rfl ?_
      refine ew_iconst (0) d_XModel_failsWith_25 (by decide) ?_
      obtain ⟨M5, aM5, bM5, cM5, eM5, h⟩ := wI_inv h
      refine ew_wI d_XModel_failsWith_26 aM5 bM5 cM5 eM5 ?_
      obtain ⟨v6, ev6, h⟩ := bI_inv h
      refine ew_iinc (L' := [(0, .ref l0), (1, .int l1), (2, .int l2), (3, .int v6)]) v6 [1, 2, 3, 0] d_XModel_failsWith_27 rfl (by rw [ev6]; rfl) (by decide) rfl ?_
      refine ew_goto 7 d_XModel_failsWith_30 (by decide) ?_
      exact ih l0 l1 l2 v6 M5 h
def F_XModel_failsWith (n : Nat) (l0 : Nat) (l1 : Int32) (M : PM) : qO :=
  gI 0 M l0 23 (fun v1 =>
  F_XModel_failsWith_7 n n l0 l1 (-1 : Int32) v1 M)
set_option maxHeartbeats 4000000 in
set_option maxRecDepth 100000 in
theorem E_XModel_failsWith {g : qG} {X : qX} {Z : qZ} (hn : 1 ≤ zn Z) (hl : 26 ≤ zl Z) {n : Nat} {l0 : Nat} {l1 : Int32} {M : PM} (h : F_XModel_failsWith n l0 l1 M = some (zr Z, zf Z)) : EW Y_XModel_failsWith g X Z 0 [(0, .ref l0), (1, .int l1)] [] M := by
  unfold F_XModel_failsWith at h
  refine ew_iconst (-1) d_XModel_failsWith_0 (by decide) ?_
  refine ew_istore_n (L' := [(0, .ref l0), (1, .int l1), (2, .int (-1 : Int32))]) 2 [1, 2, 0] d_XModel_failsWith_1 rfl (by decide) rfl ?_
  refine ew_aload_n 0 d_XModel_failsWith_2 rfl rfl ?_
  obtain ⟨v1, av1, bv1, h⟩ := gI_inv h
  refine ew_gI 0 23 d_XModel_failsWith_3 fl_XModel_164 av1 bv1 ?_
  refine ew_istore_n (L' := [(0, .ref l0), (1, .int l1), (2, .int (-1 : Int32)), (3, .int v1)]) 3 [1, 2, 3, 0] d_XModel_failsWith_6 rfl (by decide) rfl ?_
  exact E_XModel_failsWith_7 hn hl n l0 l1 (-1 : Int32) v1 M h
theorem T_XModel_failsWith {n : Nat} {l0 : Nat} {l1 : Int32} {M Mf : PM} {res : qRs} (h : F_XModel_failsWith n l0 l1 M = some (res, Mf)) : CT Y_XModel_failsWith 1 26 [.ref l0, .int l1] M res Mf :=
  CT_of (by decide) (Nat.le_of_ble_eq_true rfl) (qHd_ne (by decide)) (fun g X ad0 => E_XModel_failsWith (g := g) (X := X) (Z := (ad0, M, res, Mf, 1, 26)) (Nat.le_refl _) (Nat.le_refl _) h)
theorem d_XModel_keepState_0 : decode Y_XModel_keepState.2.1 0 = .ok (.iconst 0, 1) := by decide +kernel
theorem d_XModel_keepState_1 : decode Y_XModel_keepState.2.1 1 = .ok (.istore_n 2, 1) := by decide +kernel
theorem d_XModel_keepState_2 : decode Y_XModel_keepState.2.1 2 = .ok (.iload_n 2, 1) := by decide +kernel
theorem d_XModel_keepState_3 : decode Y_XModel_keepState.2.1 3 = .ok (.aload_n 0, 1) := by decide +kernel
theorem d_XModel_keepState_4 : decode Y_XModel_keepState.2.1 4 = .ok (.getfield 119, 3) := by decide +kernel
theorem d_XModel_keepState_7 : decode Y_XModel_keepState.2.1 7 = .ok (.if_icmp .ge (41), 3) := by decide +kernel
theorem d_XModel_keepState_10 : decode Y_XModel_keepState.2.1 10 = .ok (.aload_n 0, 1) := by decide +kernel
theorem d_XModel_keepState_11 : decode Y_XModel_keepState.2.1 11 = .ok (.getfield 32, 3) := by decide +kernel
theorem d_XModel_keepState_14 : decode Y_XModel_keepState.2.1 14 = .ok (.iload_n 2, 1) := by decide +kernel
theorem d_XModel_keepState_15 : decode Y_XModel_keepState.2.1 15 = .ok (.iaload, 1) := by decide +kernel
theorem d_XModel_keepState_16 : decode Y_XModel_keepState.2.1 16 = .ok (.istore_n 3, 1) := by decide +kernel
theorem d_XModel_keepState_17 : decode Y_XModel_keepState.2.1 17 = .ok (.aload_n 0, 1) := by decide +kernel
theorem d_XModel_keepState_18 : decode Y_XModel_keepState.2.1 18 = .ok (.getfield 78, 3) := by decide +kernel
theorem d_XModel_keepState_21 : decode Y_XModel_keepState.2.1 21 = .ok (.iload_n 2, 1) := by decide +kernel
theorem d_XModel_keepState_22 : decode Y_XModel_keepState.2.1 22 = .ok (.aload_n 0, 1) := by decide +kernel
theorem d_XModel_keepState_23 : decode Y_XModel_keepState.2.1 23 = .ok (.getfield 63, 3) := by decide +kernel
theorem d_XModel_keepState_26 : decode Y_XModel_keepState.2.1 26 = .ok (.iload_n 3, 1) := by decide +kernel
theorem d_XModel_keepState_27 : decode Y_XModel_keepState.2.1 27 = .ok (.baload, 1) := by decide +kernel
theorem d_XModel_keepState_28 : decode Y_XModel_keepState.2.1 28 = .ok (.ifCond .eq (12), 3) := by decide +kernel
theorem d_XModel_keepState_31 : decode Y_XModel_keepState.2.1 31 = .ok (.aload_n 0, 1) := by decide +kernel
theorem d_XModel_keepState_32 : decode Y_XModel_keepState.2.1 32 = .ok (.getfield 66, 3) := by decide +kernel
theorem d_XModel_keepState_35 : decode Y_XModel_keepState.2.1 35 = .ok (.iload_n 3, 1) := by decide +kernel
theorem d_XModel_keepState_36 : decode Y_XModel_keepState.2.1 36 = .ok (.iaload, 1) := by decide +kernel
theorem d_XModel_keepState_37 : decode Y_XModel_keepState.2.1 37 = .ok (.goto (4), 3) := by decide +kernel
theorem d_XModel_keepState_40 : decode Y_XModel_keepState.2.1 40 = .ok (.iconst 0, 1) := by decide +kernel
theorem d_XModel_keepState_41 : decode Y_XModel_keepState.2.1 41 = .ok (.iastore, 1) := by decide +kernel
theorem d_XModel_keepState_42 : decode Y_XModel_keepState.2.1 42 = .ok (.iinc 2 (1), 3) := by decide +kernel
theorem d_XModel_keepState_45 : decode Y_XModel_keepState.2.1 45 = .ok (.goto (-43), 3) := by decide +kernel
theorem d_XModel_keepState_48 : decode Y_XModel_keepState.2.1 48 = .ok (.iconst 0, 1) := by decide +kernel
theorem d_XModel_keepState_49 : decode Y_XModel_keepState.2.1 49 = .ok (.istore_n 2, 1) := by decide +kernel
theorem d_XModel_keepState_50 : decode Y_XModel_keepState.2.1 50 = .ok (.iload_n 2, 1) := by decide +kernel
theorem d_XModel_keepState_51 : decode Y_XModel_keepState.2.1 51 = .ok (.aload_n 0, 1) := by decide +kernel
theorem d_XModel_keepState_52 : decode Y_XModel_keepState.2.1 52 = .ok (.getfield 164, 3) := by decide +kernel
theorem d_XModel_keepState_55 : decode Y_XModel_keepState.2.1 55 = .ok (.if_icmp .ge (31), 3) := by decide +kernel
theorem d_XModel_keepState_58 : decode Y_XModel_keepState.2.1 58 = .ok (.aload_n 0, 1) := by decide +kernel
theorem d_XModel_keepState_59 : decode Y_XModel_keepState.2.1 59 = .ok (.getfield 78, 3) := by decide +kernel
theorem d_XModel_keepState_62 : decode Y_XModel_keepState.2.1 62 = .ok (.aload_n 0, 1) := by decide +kernel
theorem d_XModel_keepState_63 : decode Y_XModel_keepState.2.1 63 = .ok (.getfield 17, 3) := by decide +kernel
theorem d_XModel_keepState_66 : decode Y_XModel_keepState.2.1 66 = .ok (.aload_n 0, 1) := by decide +kernel
theorem d_XModel_keepState_67 : decode Y_XModel_keepState.2.1 67 = .ok (.getfield 69, 3) := by decide +kernel
theorem d_XModel_keepState_70 : decode Y_XModel_keepState.2.1 70 = .ok (.iload_n 2, 1) := by decide +kernel
theorem d_XModel_keepState_71 : decode Y_XModel_keepState.2.1 71 = .ok (.iaload, 1) := by decide +kernel
theorem d_XModel_keepState_72 : decode Y_XModel_keepState.2.1 72 = .ok (.iaload, 1) := by decide +kernel
theorem d_XModel_keepState_73 : decode Y_XModel_keepState.2.1 73 = .ok (.aload_n 0, 1) := by decide +kernel
theorem d_XModel_keepState_74 : decode Y_XModel_keepState.2.1 74 = .ok (.getfield 72, 3) := by decide +kernel
theorem d_XModel_keepState_77 : decode Y_XModel_keepState.2.1 77 = .ok (.iload_n 2, 1) := by decide +kernel
theorem d_XModel_keepState_78 : decode Y_XModel_keepState.2.1 78 = .ok (.iaload, 1) := by decide +kernel
theorem d_XModel_keepState_79 : decode Y_XModel_keepState.2.1 79 = .ok (.iastore, 1) := by decide +kernel
theorem d_XModel_keepState_80 : decode Y_XModel_keepState.2.1 80 = .ok (.iinc 2 (1), 3) := by decide +kernel
theorem d_XModel_keepState_83 : decode Y_XModel_keepState.2.1 83 = .ok (.goto (-33), 3) := by decide +kernel
theorem d_XModel_keepState_86 : decode Y_XModel_keepState.2.1 86 = .ok (.aload_n 0, 1) := by decide +kernel
theorem d_XModel_keepState_87 : decode Y_XModel_keepState.2.1 87 = .ok (.aload_n 0, 1) := by decide +kernel
theorem d_XModel_keepState_88 : decode Y_XModel_keepState.2.1 88 = .ok (.getfield 63, 3) := by decide +kernel
theorem d_XModel_keepState_91 : decode Y_XModel_keepState.2.1 91 = .ok (.iconst 2, 1) := by decide +kernel
theorem d_XModel_keepState_92 : decode Y_XModel_keepState.2.1 92 = .ok (.baload, 1) := by decide +kernel
theorem d_XModel_keepState_93 : decode Y_XModel_keepState.2.1 93 = .ok (.ifCond .eq (12), 3) := by decide +kernel
theorem d_XModel_keepState_96 : decode Y_XModel_keepState.2.1 96 = .ok (.aload_n 0, 1) := by decide +kernel
theorem d_XModel_keepState_97 : decode Y_XModel_keepState.2.1 97 = .ok (.getfield 66, 3) := by decide +kernel
theorem d_XModel_keepState_100 : decode Y_XModel_keepState.2.1 100 = .ok (.iconst 2, 1) := by decide +kernel
theorem d_XModel_keepState_101 : decode Y_XModel_keepState.2.1 101 = .ok (.iaload, 1) := by decide +kernel
theorem d_XModel_keepState_102 : decode Y_XModel_keepState.2.1 102 = .ok (.goto (4), 3) := by decide +kernel
theorem d_XModel_keepState_105 : decode Y_XModel_keepState.2.1 105 = .ok (.iconst 0, 1) := by decide +kernel
theorem d_XModel_keepState_106 : decode Y_XModel_keepState.2.1 106 = .ok (.putfield 192, 3) := by decide +kernel
theorem d_XModel_keepState_109 : decode Y_XModel_keepState.2.1 109 = .ok (.aload_n 0, 1) := by decide +kernel
theorem d_XModel_keepState_110 : decode Y_XModel_keepState.2.1 110 = .ok (.iload_n 1, 1) := by decide +kernel
theorem d_XModel_keepState_111 : decode Y_XModel_keepState.2.1 111 = .ok (.putfield 195, 3) := by decide +kernel
theorem d_XModel_keepState_114 : decode Y_XModel_keepState.2.1 114 = .ok (.aload_n 0, 1) := by decide +kernel
theorem d_XModel_keepState_115 : decode Y_XModel_keepState.2.1 115 = .ok (.aload_n 0, 1) := by decide +kernel
theorem d_XModel_keepState_116 : decode Y_XModel_keepState.2.1 116 = .ok (.getfield 119, 3) := by decide +kernel
theorem d_XModel_keepState_119 : decode Y_XModel_keepState.2.1 119 = .ok (.putfield 198, 3) := by decide +kernel
theorem d_XModel_keepState_122 : decode Y_XModel_keepState.2.1 122 = .ok (.aload_n 0, 1) := by decide +kernel
theorem d_XModel_keepState_123 : decode Y_XModel_keepState.2.1 123 = .ok (.iconst 1, 1) := by decide +kernel
theorem d_XModel_keepState_124 : decode Y_XModel_keepState.2.1 124 = .ok (.putfield 201, 3) := by decide +kernel
theorem d_XModel_keepState_127 : decode Y_XModel_keepState.2.1 127 = .ok (.return_, 1) := by decide +kernel
def F_XModel_keepState_41 (n : Nat) (rec2 : Nat → Int32 → Int32 → PM → qO) (l0 : Nat) (l1 : Int32) (l2 : Int32) (s0 : Nat) (s1 : Int32) (s2 : Int32) (M : PM) : qO :=
  wI M s0 s1 s2 (fun M1 =>
  bI (l2 + (1 : Int32)) (fun v2 =>
  rec2 l0 l1 v2 M1))
set_option maxHeartbeats 4000000 in
set_option maxRecDepth 100000 in
theorem E_XModel_keepState_41 {g : qG} {X : qX} {Z : qZ} (hn : 0 ≤ zn Z) (hl : 0 ≤ zl Z) {n : Nat} {rec2 : Nat → Int32 → Int32 → PM → qO} (hrec2 : ∀ (l0 : Nat) (l1 : Int32) (l2 : Int32) (M : PM), rec2 l0 l1 l2 M = some (zr Z, zf Z) → EW Y_XModel_keepState g X Z 2 [(0, .ref l0), (1, .int l1), (2, .int l2)] [] M) {l0 : Nat} {l1 : Int32} {l2 : Int32} {s0 : Nat} {s1 : Int32} {s2 : Int32} {M : PM} (h : F_XModel_keepState_41 n rec2 l0 l1 l2 s0 s1 s2 M = some (zr Z, zf Z)) : EW Y_XModel_keepState g X Z 41 [(0, .ref l0), (1, .int l1), (2, .int l2)] [.int s2, .int s1, .ref s0] M := by
  unfold F_XModel_keepState_41 at h
  obtain ⟨M1, aM1, bM1, cM1, eM1, h⟩ := wI_inv h
  refine ew_wI d_XModel_keepState_41 aM1 bM1 cM1 eM1 ?_
  obtain ⟨v2, ev2, h⟩ := bI_inv h
  refine ew_iinc (L' := [(0, .ref l0), (1, .int l1), (2, .int v2)]) v2 [1, 2, 0] d_XModel_keepState_42 rfl (by rw [ev2]; rfl) (by decide) rfl ?_
  refine ew_goto 2 d_XModel_keepState_45 (by decide) ?_
  exact hrec2 l0 l1 v2 M1 h
def F_XModel_keepState_106 (n : Nat) (l0 : Nat) (l1 : Int32) (s0 : Nat) (s1 : Int32) (M : PM) : qO :=
  pF 0 M s0 33 (.int s1) (fun M1 =>
  pF 0 M1 l0 34 (.int l1) (fun M2 =>
  gI 0 M2 l0 9 (fun v3 =>
  pF 0 M2 l0 35 (.int v3) (fun M4 =>
  pF 0 M4 l0 31 (.int (1 : Int32)) (fun M5 =>
  some (.inl none, M5))))))
set_option maxHeartbeats 4000000 in
set_option maxRecDepth 100000 in
theorem E_XModel_keepState_106 {g : qG} {X : qX} {Z : qZ} (hn : 0 ≤ zn Z) (hl : 0 ≤ zl Z) {n : Nat} {l0 : Nat} {l1 : Int32} {s0 : Nat} {s1 : Int32} {M : PM} (h : F_XModel_keepState_106 n l0 l1 s0 s1 M = some (zr Z, zf Z)) : EW Y_XModel_keepState g X Z 106 [(0, .ref l0), (1, .int l1)] [.int s1, .ref s0] M := by
  unfold F_XModel_keepState_106 at h
  obtain ⟨M1, aM1, eM1, h⟩ := pF_inv h
  refine ew_pF 0 33 d_XModel_keepState_106 fl_XModel_192 aM1 eM1 (fun ad => ⟨rfl, rfl⟩) ?_
  refine ew_aload_n 0 d_XModel_keepState_109 rfl rfl ?_
  refine ew_iload_n 1 d_XModel_keepState_110 rfl rfl ?_
  obtain ⟨M2, aM2, eM2, h⟩ := pF_inv h
  refine ew_pF 0 34 d_XModel_keepState_111 fl_XModel_195 aM2 eM2 (fun ad => ⟨rfl, rfl⟩) ?_
  refine ew_aload_n 0 d_XModel_keepState_114 rfl rfl ?_
  refine ew_aload_n 0 d_XModel_keepState_115 rfl rfl ?_
  obtain ⟨v3, av3, bv3, h⟩ := gI_inv h
  refine ew_gI 0 9 d_XModel_keepState_116 fl_XModel_119 av3 bv3 ?_
  obtain ⟨M4, aM4, eM4, h⟩ := pF_inv h
  refine ew_pF 0 35 d_XModel_keepState_119 fl_XModel_198 aM4 eM4 (fun ad => ⟨rfl, rfl⟩) ?_
  refine ew_aload_n 0 d_XModel_keepState_122 rfl rfl ?_
  refine ew_iconst (1) d_XModel_keepState_123 (by decide) ?_
  obtain ⟨M5, aM5, eM5, h⟩ := pF_inv h
  refine ew_pF 0 31 d_XModel_keepState_124 fl_XModel_201 aM5 eM5 (fun ad => ⟨rfl, rfl⟩) ?_
  obtain ⟨hz, hm⟩ := Prod.mk.inj (Option.some.inj h)
  exact ew_return d_XModel_keepState_127 rfl hz.symm hm.symm
def F_XModel_keepState_50 (n : Nat) : Nat → Nat → Int32 → Int32 → PM → qO
  | 0, _, _, _, _ => none
  | f + 1, l0, l1, l2, M =>
    gI 0 M l0 23 (fun v1 =>
    if v1 ≤ l2 then
      gR 0 M l0 21 (fun v3 =>
      lZ M v3 (2 : Int32) (fun v4 =>
      if v4 = (0 : Int32) then
        F_XModel_keepState_106 n l0 l1 l0 (0 : Int32) M
      else
        gR 0 M l0 22 (fun v6 =>
        lI M v6 (2 : Int32) (fun v7 =>
        F_XModel_keepState_106 n l0 l1 l0 v7 M))))
    else
      gR 0 M l0 32 (fun v8 =>
      gR 0 M l0 4 (fun v9 =>
      gR 0 M l0 26 (fun v10 =>
      lI M v10 l2 (fun v11 =>
      lI M v9 v11 (fun v12 =>
      gR 0 M l0 27 (fun v13 =>
      lI M v13 l2 (fun v14 =>
      wI M v8 v12 v14 (fun M15 =>
      bI (l2 + (1 : Int32)) (fun v16 =>
      (F_XModel_keepState_50 n f) l0 l1 v16 M15))))))))))
set_option maxHeartbeats 4000000 in
set_option maxRecDepth 100000 in
theorem E_XModel_keepState_50 {g : qG} {X : qX} {Z : qZ} (hn : 0 ≤ zn Z) (hl : 0 ≤ zl Z) {n : Nat} : ∀ (f : Nat) (l0 : Nat) (l1 : Int32) (l2 : Int32) (M : PM), F_XModel_keepState_50 n f l0 l1 l2 M = some (zr Z, zf Z) → EW Y_XModel_keepState g X Z 50 [(0, .ref l0), (1, .int l1), (2, .int l2)] [] M := by
  intro f
  induction f with
  | zero => intro l0 l1 l2 M h; rw [F_XModel_keepState_50] at h; cases h
  | succ f ih =>
    intro l0 l1 l2 M h
    rw [F_XModel_keepState_50] at h
    refine ew_iload_n 2 d_XModel_keepState_50 rfl rfl ?_
    refine ew_aload_n 0 d_XModel_keepState_51 rfl rfl ?_
    obtain ⟨v1, av1, bv1, h⟩ := gI_inv h
    refine ew_gI 0 23 d_XModel_keepState_52 fl_XModel_164 av1 bv1 ?_
    refine ew_icmp_ge 86 d_XModel_keepState_55 (by decide) (fun c2 => ?_) (fun c2 => ?_)
    · rw [if_pos c2] at h
      refine ew_aload_n 0 d_XModel_keepState_86 rfl rfl ?_
      refine ew_aload_n 0 d_XModel_keepState_87 rfl rfl ?_
      obtain ⟨v3, av3, bv3, h⟩ := gR_inv h
      refine ew_gR 0 21 d_XModel_keepState_88 fl_XModel_63 av3 bv3 ?_
      refine ew_iconst (2) d_XModel_keepState_91 (by decide) ?_
      obtain ⟨v4, av4, bv4, cv4, ev4, h⟩ := lZ_inv h
      refine ew_lZ d_XModel_keepState_92 av4 bv4 cv4 ev4 ?_
      refine ew_if_eq 105 d_XModel_keepState_93 (by decide) (fun c5 => ?_) (fun c5 => ?_)
      · rw [if_pos c5] at h
        refine ew_iconst (0) d_XModel_keepState_105 (by decide) ?_
        exact ew_pick (L' := [(0, .ref l0), (1, .int l1)]) [0, 1] rfl (E_XModel_keepState_106 hn hl h)
      · rw [if_neg c5] at h
        refine ew_aload_n 0 d_XModel_keepState_96 rfl rfl ?_
        obtain ⟨v6, av6, bv6, h⟩ := gR_inv h
        refine ew_gR 0 22 d_XModel_keepState_97 fl_XModel_66 av6 bv6 ?_
        refine ew_iconst (2) d_XModel_keepState_100 (by decide) ?_
        obtain ⟨v7, av7, bv7, cv7, ev7, h⟩ := lI_inv h
        refine ew_lI d_XModel_keepState_101 av7 bv7 cv7 ev7 ?_
        refine ew_goto 106 d_XModel_keepState_102 (by decide) ?_
        exact ew_pick (L' := [(0, .ref l0), (1, .int l1)]) [0, 1] rfl (E_XModel_keepState_106 hn hl h)
    · rw [if_neg c2] at h
      refine ew_aload_n 0 d_XModel_keepState_58 rfl rfl ?_
      obtain ⟨v8, av8, bv8, h⟩ := gR_inv h
      refine ew_gR 0 32 d_XModel_keepState_59 fl_XModel_78 av8 bv8 ?_
      refine ew_aload_n 0 d_XModel_keepState_62 rfl rfl ?_
      obtain ⟨v9, av9, bv9, h⟩ := gR_inv h
      refine ew_gR 0 4 d_XModel_keepState_63 fl_XModel_17 av9 bv9 ?_
      refine ew_aload_n 0 d_XModel_keepState_66 rfl rfl ?_
      obtain ⟨v10, av10, bv10, h⟩ := gR_inv h
      refine ew_gR 0 26 d_XModel_keepState_67 fl_XModel_69 av10 bv10 ?_
      refine ew_iload_n 2 d_XModel_keepState_70 rfl rfl ?_
      obtain ⟨v11, av11, bv11, cv11, ev11, h⟩ := lI_inv h
      refine ew_lI d_XModel_keepState_71 av11 bv11 cv11 ev11 ?_
      obtain ⟨v12, av12, bv12, cv12, ev12, h⟩ := lI_inv h
      refine ew_lI d_XModel_keepState_72 av12 bv12 cv12 ev12 ?_
      refine ew_aload_n 0 d_XModel_keepState_73 rfl rfl ?_
      obtain ⟨v13, av13, bv13, h⟩ := gR_inv h
      refine ew_gR 0 27 d_XModel_keepState_74 fl_XModel_72 av13 bv13 ?_
      refine ew_iload_n 2 d_XModel_keepState_77 rfl rfl ?_
      obtain ⟨v14, av14, bv14, cv14, ev14, h⟩ := lI_inv h
      refine ew_lI d_XModel_keepState_78 av14 bv14 cv14 ev14 ?_
      obtain ⟨M15, aM15, bM15, cM15, eM15, h⟩ := wI_inv h
      refine ew_wI d_XModel_keepState_79 aM15 bM15 cM15 eM15 ?_
      obtain ⟨v16, ev16, h⟩ := bI_inv h
      refine ew_iinc (L' := [(0, .ref l0), (1, .int l1), (2, .int v16)]) v16 [1, 2, 0] d_XModel_keepState_80 rfl (by rw [ev16]; rfl) (by decide) rfl ?_
      refine ew_goto 50 d_XModel_keepState_83 (by decide) ?_
      exact ih l0 l1 v16 M15 h
def F_XModel_keepState_2 (n : Nat) : Nat → Nat → Int32 → Int32 → PM → qO
  | 0, _, _, _, _ => none
  | f + 1, l0, l1, l2, M =>
    gI 0 M l0 9 (fun v1 =>
    if v1 ≤ l2 then
      F_XModel_keepState_50 n n l0 l1 (0 : Int32) M
    else
      gR 0 M l0 11 (fun v3 =>
      lI M v3 l2 (fun v4 =>
      gR 0 M l0 32 (fun v5 =>
      gR 0 M l0 21 (fun v6 =>
      lZ M v6 v4 (fun v7 =>
      if v7 = (0 : Int32) then
        F_XModel_keepState_41 n (F_XModel_keepState_2 n f) l0 l1 l2 v5 l2 (0 : Int32) M
      else
        gR 0 M l0 22 (fun v9 =>
        lI M v9 v4 (fun v10 =>
        F_XModel_keepState_41 n (F_XModel_keepState_2 n f) l0 l1 l2 v5 l2 v10 M))))))))
set_option maxHeartbeats 4000000 in
set_option maxRecDepth 100000 in
theorem E_XModel_keepState_2 {g : qG} {X : qX} {Z : qZ} (hn : 0 ≤ zn Z) (hl : 0 ≤ zl Z) {n : Nat} : ∀ (f : Nat) (l0 : Nat) (l1 : Int32) (l2 : Int32) (M : PM), F_XModel_keepState_2 n f l0 l1 l2 M = some (zr Z, zf Z) → EW Y_XModel_keepState g X Z 2 [(0, .ref l0), (1, .int l1), (2, .int l2)] [] M := by
  intro f
  induction f with
  | zero => intro l0 l1 l2 M h; rw [F_XModel_keepState_2] at h; cases h
  | succ f ih =>
    intro l0 l1 l2 M h
    rw [F_XModel_keepState_2] at h
    refine ew_iload_n 2 d_XModel_keepState_2 rfl rfl ?_
    refine ew_aload_n 0 d_XModel_keepState_3 rfl rfl ?_
    obtain ⟨v1, av1, bv1, h⟩ := gI_inv h
    refine ew_gI 0 9 d_XModel_keepState_4 fl_XModel_119 av1 bv1 ?_
    refine ew_icmp_ge 48 d_XModel_keepState_7 (by decide) (fun c2 => ?_) (fun c2 => ?_)
    · rw [if_pos c2] at h
      refine ew_iconst (0) d_XModel_keepState_48 (by decide) ?_
      refine ew_istore_n (L' := [(0, .ref l0), (1, .int l1), (2, .int (0 : Int32))]) 2 [1, 2, 0] d_XModel_keepState_49 rfl (by decide) rfl ?_
      exact E_XModel_keepState_50 hn hl n l0 l1 (0 : Int32) M h
    · rw [if_neg c2] at h
      refine ew_aload_n 0 d_XModel_keepState_10 rfl rfl ?_
      obtain ⟨v3, av3, bv3, h⟩ := gR_inv h
      refine ew_gR 0 11 d_XModel_keepState_11 fl_XModel_32 av3 bv3 ?_
      refine ew_iload_n 2 d_XModel_keepState_14 rfl rfl ?_
      obtain ⟨v4, av4, bv4, cv4, ev4, h⟩ := lI_inv h
      refine ew_lI d_XModel_keepState_15 av4 bv4 cv4 ev4 ?_
      refine ew_istore_n (L' := [(0, .ref l0), (1, .int l1), (2, .int l2), (3, .int v4)]) 3 [1, 2, 3, 0] d_XModel_keepState_16 rfl (by decide) rfl ?_
      refine ew_aload_n 0 d_XModel_keepState_17 rfl rfl ?_
      obtain ⟨v5, av5, bv5, h⟩ := gR_inv h
      refine ew_gR 0 32 d_XModel_keepState_18 fl_XModel_78 av5 bv5 ?_
      refine ew_iload_n 2 d_XModel_keepState_21 rfl rfl ?_
      refine ew_aload_n 0 d_XModel_keepState_22 rfl rfl ?_
      obtain ⟨v6, av6, bv6, h⟩ := gR_inv h
      refine ew_gR 0 21 d_XModel_keepState_23 fl_XModel_63 av6 bv6 ?_
      refine ew_iload_n 3 d_XModel_keepState_26 rfl rfl ?_
      obtain ⟨v7, av7, bv7, cv7, ev7, h⟩ := lZ_inv h
      refine ew_lZ d_XModel_keepState_27 av7 bv7 cv7 ev7 ?_
      refine ew_if_eq 40 d_XModel_keepState_28 (by decide) (fun c8 => ?_) (fun c8 => ?_)
      · rw [if_pos c8] at h
        refine ew_iconst (0) d_XModel_keepState_40 (by decide) ?_
        exact ew_pick (L' := [(0, .ref l0), (1, .int l1), (2, .int l2)]) [0, 1, 2] rfl (E_XModel_keepState_41 hn hl ih h)
      · rw [if_neg c8] at h
        refine ew_aload_n 0 d_XModel_keepState_31 rfl rfl ?_
        obtain ⟨v9, av9, bv9, h⟩ := gR_inv h
        refine ew_gR 0 22 d_XModel_keepState_32 fl_XModel_66 av9 bv9 ?_
        refine ew_iload_n 3 d_XModel_keepState_35 rfl rfl ?_
        obtain ⟨v10, av10, bv10, cv10, ev10, h⟩ := lI_inv h
        refine ew_lI d_XModel_keepState_36 av10 bv10 cv10 ev10 ?_
        refine ew_goto 41 d_XModel_keepState_37 (by decide) ?_
        exact ew_pick (L' := [(0, .ref l0), (1, .int l1), (2, .int l2)]) [0, 1, 2] rfl (E_XModel_keepState_41 hn hl ih h)
def F_XModel_keepState (n : Nat) (l0 : Nat) (l1 : Int32) (M : PM) : qO :=
  F_XModel_keepState_2 n n l0 l1 (0 : Int32) M
set_option maxHeartbeats 4000000 in
set_option maxRecDepth 100000 in
theorem E_XModel_keepState {g : qG} {X : qX} {Z : qZ} (hn : 0 ≤ zn Z) (hl : 0 ≤ zl Z) {n : Nat} {l0 : Nat} {l1 : Int32} {M : PM} (h : F_XModel_keepState n l0 l1 M = some (zr Z, zf Z)) : EW Y_XModel_keepState g X Z 0 [(0, .ref l0), (1, .int l1)] [] M := by
  unfold F_XModel_keepState at h
  refine ew_iconst (0) d_XModel_keepState_0 (by decide) ?_
  refine ew_istore_n (L' := [(0, .ref l0), (1, .int l1), (2, .int (0 : Int32))]) 2 [1, 2, 0] d_XModel_keepState_1 rfl (by decide) rfl ?_
  exact E_XModel_keepState_2 hn hl n l0 l1 (0 : Int32) M h
theorem T_XModel_keepState {n : Nat} {l0 : Nat} {l1 : Int32} {M Mf : PM} {res : qRs} (h : F_XModel_keepState n l0 l1 M = some (res, Mf)) : CT Y_XModel_keepState 0 0 [.ref l0, .int l1] M res Mf :=
  CT_of (by decide) (Nat.le_of_ble_eq_true rfl) (qHd_ne (by decide)) (fun g X ad0 => E_XModel_keepState (g := g) (X := X) (Z := (ad0, M, res, Mf, 0, 0)) (Nat.le_refl _) (Nat.le_refl _) h)
