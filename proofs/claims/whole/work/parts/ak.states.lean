section RLEVEL
variable {O : qOb9} {x c u p f w q s l n r E A nw na nt I Kc : Nat} {V S0 T : qS} {lam : Nat → Nat} {ν : Nat → Nat}
/-- the nodes of a level are reckoned -/
theorem cls_reckonLevel (h : SX O x c u p f w q s l r E A nw na nt I Kc V S0 lam) (hn : 7000 ≤ n) {v : Nat} (hv : v < 8) (hT : TF s l S0 T) (h0 : ∀ m, m < A → dpN V r m → (lam m < v ∨ (lam m = v ∧ V.1 r 3 m ≤ 5)) → PRm T l m (wd (V.1 r 3) (V.1 r 5) m) (fun t => nv r V (nw + na) nt t ν m)) :
    ∃ T', G_XSearch_reckonLevel O n s (nI v) T = some ((), T') ∧ TF s l S0 T' ∧ T'.1 = T.1 ∧ PR r A (nw + na) nt l V lam T' v ν := by
  have hA := h.hA
  have hO := h.hO
  have NE := fun _ : Unit => ClO_ne hO
  obtain ⟨⟨h1, h2, h3, h4, h5, h6, h7⟩, ⟨o1, o2, o3, o4, o5, o6, o7, o8, o9, o10, o11⟩, _, _, _, _, ⟨s3, s4, s5, s6, s7, s8, s9⟩, _⟩ := hO
  obtain ⟨σ, g1, g2, g3, g4, g5, g6⟩ := h.ord
  have mono : ∀ d v, v + d ≤ 8 → σ v ≤ σ (v + d) := by
    intro d
    induction d with
    | zero => intro v _; exact Nat.le_refl _
    | succ d ih => intro v hv; exact Nat.le_trans (ih v (by omega)) (g2 (v + d) (by omega))
  have hs1 : σ (v + 1) ≤ 5732 := by
    have := mono (8 - (v + 1)) (v + 1) (by omega)
    rw [show v + 1 + (8 - (v + 1)) = 8 by omega] at this
    omega
  have hs0 := g2 v hv
  have sv : v < oN O s 8 := by rw [s8]; omega
  have sv1 : v + 1 < oN O s 8 := by rw [s8]; omega
  have fx : ∀ {T' : qS}, TF s l S0 T' → ∀ j, j ≠ 5 → j ≠ 9 → j ≠ 13 → j ≠ 14 → T'.1 s j = S0.1 s j := fun hT' => hT'.2.1
  have loop : ∀ (d i fu : Nat) (T' : qS), i + d = σ (v + 1) → σ v ≤ i → d < fu → TF s l S0 T' → T'.1 = T.1 → (∀ m, m < A → dpN V r m → (lam m < v ∨ (lam m = v ∧ (V.1 r 3 m ≤ 5 ∨ ∃ i', σ v ≤ i' ∧ i' < i ∧ S0.1 s 7 i' = nI m))) → PRm T' l m (wd (V.1 r 3) (V.1 r 5) m) (fun t => nv r V (nw + na) nt t ν m)) → ∃ T2, G_XSearch_reckonLevel_7 O n fu s (nI v) (nI i) T' = some ((), T2) ∧ TF s l S0 T2 ∧ T2.1 = T.1 ∧ PR r A (nw + na) nt l V lam T2 v ν := by
    intro d
    induction d with
    | zero =>
      intro i fu T' e hi hf hT' eT hin
      obtain ⟨fu, rfl⟩ : ∃ q, fu = q + 1 := ⟨fu - 1, by omega⟩
      rw [G_XSearch_reckonLevel_7, uA (ci := 8) h6 (by decide), nI_1, ul (ci := 8) h6 (by decide) sv1 (by omega), fx hT' 8 (by decide) (by decide) (by decide) (by decide), g1 (v + 1) (by omega), if_pos (nI_le (by omega) (by omega))]
      refine ⟨T', rfl, hT', eT, fun m hm hd hl => hin m hm hd ?_⟩
      by_cases z : lam m < v
      · exact Or.inl z
      · have e2 : lam m = v := by omega
        refine Or.inr ⟨e2, ?_⟩
        by_cases y : V.1 r 3 m ≤ 5
        · exact Or.inl y
        · obtain ⟨i', a1, a2, a3⟩ := g6 m hm hd y
          rw [e2] at a1 a2
          exact Or.inr ⟨i', a1, by omega, a3⟩
    | succ d ih =>
      intro i fu T' e hi hf hT' eT hin
      obtain ⟨fu, rfl⟩ : ∃ q, fu = q + 1 := ⟨fu - 1, by omega⟩
      obtain ⟨m, hm, hd, hk, hl, em⟩ := g4 v i hv hi (by omega)
      have i7 : i < oN O s 7 := by rw [s7]; omega
      obtain ⟨T1, t1, t2, t3⟩ := cls_reckon (n := n) (ν := ν) h hT' hm hk (fun q hq hp => by
        have hqA : q < A := by omega
        have dq := h.hM m q hm hqA hd hp
        have lq := h.hL.2.2.2.1 m q hm hqA hd hk hp
        refine hin q hqA dq ?_
        by_cases z : lam q < v
        · exact Or.inl z
        · have e2 : lam q = v := by omega
          refine Or.inr ⟨e2, ?_⟩
          by_cases y : V.1 r 3 q ≤ 5
          · exact Or.inl y
          · obtain ⟨i', a1, a2, a3⟩ := g6 q hqA dq y
            rw [e2] at a1 a2
            refine Or.inr ⟨i', a1, ?_, a3⟩
            apply Nat.lt_of_not_le
            intro hle
            by_cases y2 : i' = i
            · rw [y2, em] at a3
              have := (nI_eq (by omega) (by omega)).mp a3
              omega
            · have := g5 v i i' m q hv hi (by omega) a2 em a3 hm hqA
              omega)
      rw [G_XSearch_reckonLevel_7, uA (ci := 8) h6 (by decide), nI_1, ul (ci := 8) h6 (by decide) sv1 (by omega), fx hT' 8 (by decide) (by decide) (by decide) (by decide), g1 (v + 1) (by omega), if_neg (nI_ge (by omega) (by omega)), uO (ci := 8) h6 (by decide), o10, uA (ci := 8) h6 (by decide), ul (ci := 8) h6 (by decide) i7 (by omega), fx hT' 7 (by decide) (by decide) (by decide) (by decide), em, uk (ci := 5) h7, t1, yV_some, hB_eq, nI_1]
      refine ih (i + 1) fu T1 (by omega) (by omega) (by omega) (hT'.pl t2) (by rw [t2.1, eT]) (fun m' hm' hd' hc => ?_)
      by_cases z : m' = m
      · subst z; exact t3
      · refine PRm_same t2 z (hin m' hm' hd' ?_)
        rcases hc with y | ⟨y1, y2 | ⟨i', a1, a2, a3⟩⟩
        · exact Or.inl y
        · exact Or.inr ⟨y1, Or.inl y2⟩
        · refine Or.inr ⟨y1, Or.inr ⟨i', a1, ?_, a3⟩⟩
          by_cases y : i' = i
          · rw [y, em] at a3
            exact absurd ((nI_eq (by omega) (by omega)).mp a3).symm z
          · omega
  unfold G_XSearch_reckonLevel
  rw [uA (ci := 8) h6 (by decide), ul (ci := 8) h6 (by decide) sv (by omega), fx hT 8 (by decide) (by decide) (by decide) (by decide), g1 v (by omega)]
  refine loop (σ (v + 1) - σ v) (σ v) n T (by omega) (Nat.le_refl _) (by omega) hT rfl (fun m hm hd hc => h0 m hm hd ?_)
  rcases hc with y | ⟨y1, y2 | ⟨i', a1, a2, a3⟩⟩
  · exact Or.inl y
  · exact Or.inr ⟨y1, y2⟩
  · omega
/-- invariants of a level hold in what is left -/
theorem cls_withInv (h : SX O x c u p f w q s l r E A nw na nt I Kc V S0 lam) (hn : 7000 ≤ n) {v : Nat} (hv : v < 8) (hT : TF s l S0 T) (hP : PR r A (nw + na) nt l V lam T v ν) {st : Int64} :
    ∃ y, G_XSearch_withInvariants O n s (nI v) st T = some (y, T) ∧ ∀ t, t < 64 → (bt y t = true ↔ bt st t = true ∧ ∀ k, k < I → lam (tN (S0.1 q 0 k)) = v → nv r V (nw + na) nt t ν (tN (S0.1 q 0 k)) = 1) := by
  have hA := h.hA
  have hO := h.hO
  have hPl := ClO_pl hO
  have NE := fun _ : Unit => ClO_ne hO
  have hI8 := h.hI
  obtain ⟨⟨h1, h2, h3, h4, h5, h6, h7⟩, ⟨o1, o2, o3, o4, o5, o6, o7, o8, o9, o10, o11⟩, _, _, _, ⟨ql0, ql1, ql2⟩, ⟨s3, s4, s5, s6, s7, s8, s9⟩, _⟩ := hO
  have tq : T.1 q = S0.1 q := hT.1 q (NE ()).2.2.2.2.1.1
  have ts6 : T.1 s 6 = S0.1 s 6 := hT.2.1 6 (by decide) (by decide) (by decide) (by decide)
  have loop : ∀ (d k fu : Nat) (st : Int64), k + d = I → d < fu → ∃ y, G_XSearch_withInvariants_6 O n fu s (nI v) st (nI k) T = some (y, T) ∧ ∀ t, t < 64 → (bt y t = true ↔ bt st t = true ∧ ∀ k', k ≤ k' → k' < I → lam (tN (S0.1 q 0 k')) = v → nv r V (nw + na) nt t ν (tN (S0.1 q 0 k')) = 1) := by
    intro d
    induction d with
    | zero =>
      intro k fu st e hf
      obtain ⟨fu, rfl⟩ : ∃ q, fu = q + 1 := ⟨fu - 1, by omega⟩
      rw [G_XSearch_withInvariants_6, uO (ci := 8) h6 (by decide), o9, uI (ci := 7) h5 (by decide), tq, h.q3, if_pos (nI_le (by omega) (by omega))]
      exact ⟨st, rfl, fun t ht => ⟨fun z => ⟨z, fun k' a b => by omega⟩, fun z => z.1⟩⟩
    | succ d ih =>
      intro k fu st e hf
      obtain ⟨fu, rfl⟩ : ∃ q, fu = q + 1 := ⟨fu - 1, by omega⟩
      obtain ⟨m, hm, em, dm, wm, lm⟩ := h.inv k (by omega)
      have tm : tN (S0.1 q 0 k) = m := by rw [em]; exact nI_clamp (by omega)
      have k0 : k < oN O q 0 := by rw [ql0]; omega
      have m6 : m < oN O s 6 := by rw [s6]; omega
      have lK := h.hL.2.1 m hm dm
      have l7 := h.hR.2.2.2.1
      rw [G_XSearch_withInvariants_6, uO (ci := 8) h6 (by decide), o9, uI (ci := 7) h5 (by decide), tq, h.q3, if_neg (nI_ge (by omega) (by omega)), uA (ci := 8) h6 (by decide), uO (ci := 8) h6 (by decide), o9, uA (ci := 7) h5 (by decide), ul (ci := 7) h5 (by decide) k0 (by omega), tq, em, ul (ci := 8) h6 (by decide) m6 (by omega), ts6, lm]
      by_cases z : lam m = v
      · rw [if_pos (by rw [z]), uO (ci := 8) h6 (by decide), o10, uO (ci := 8) h6 (by decide), o9, uA (ci := 7) h5 (by decide), ul (ci := 7) h5 (by decide) k0 (by omega), tq, em, uk (ci := 5) h7, cls_truthOf hPl (by omega), yC_some, hB_eq]
        unfold G_XSearch_withInvariants_59
        rw [hB_eq, nI_1]
        obtain ⟨y, ey, hy⟩ := ih (k + 1) fu (st &&& T.2 l 1 m) (by omega) (by omega)
        refine ⟨y, ey, fun t ht => ?_⟩
        have pm := hP m hm dm (by omega) t ht
        rw [wm, if_neg (by decide)] at pm
        have pm' : b1 (bt (T.2 l 1 m) t) = nv r V (nw + na) nt t ν m := pm
        rw [hy t ht, bt_and, Bool.and_eq_true]
        constructor
        · rintro ⟨⟨z1, z2⟩, z3⟩
          refine ⟨z1, fun k' a b e' => ?_⟩
          by_cases y2 : k' = k
          · subst y2
            rw [tm, ← pm', z2]; rfl
          · exact z3 k' (by omega) b e'
        · rintro ⟨z1, z3⟩
          refine ⟨⟨z1, ?_⟩, fun k' a b e' => z3 k' (by omega) b e'⟩
          have := z3 k (Nat.le_refl k) (by omega) (by rw [tm]; exact z)
          rw [tm, ← pm'] at this
          exact b1_one.mp this
      · rw [if_neg (fun y => z ((nI_eq (by omega) (by omega)).mp y))]
        unfold G_XSearch_withInvariants_59
        rw [hB_eq, nI_1]
        obtain ⟨y, ey, hy⟩ := ih (k + 1) fu st (by omega) (by omega)
        refine ⟨y, ey, fun t ht => ?_⟩
        rw [hy t ht]
        constructor
        · rintro ⟨z1, z3⟩
          refine ⟨z1, fun k' a b e' => ?_⟩
          by_cases y2 : k' = k
          · subst y2
            rw [tm] at e'
            exact absurd e' z
          · exact z3 k' (by omega) b e'
        · rintro ⟨z1, z3⟩
          exact ⟨z1, fun k' a b e' => z3 k' (by omega) b e'⟩
  obtain ⟨y, ey, hy⟩ := loop I 0 n st (by omega) (by omega)
  rw [nI_0] at ey
  refine ⟨y, ey, fun t ht => ?_⟩
  rw [hy t ht]
  exact ⟨fun z => ⟨z.1, fun k hk => z.2 k (Nat.zero_le k) hk⟩, fun z => ⟨z.1, fun k _ hk => z.2 k hk⟩⟩
theorem cls_below {S : qS} {b : Nat} (hb : b ≤ 100) : G_XSearch_statesBelow O n (nI b) S = some (below b, S) := by
  unfold G_XSearch_statesBelow G_XSearch_statesBelow_17 below
  by_cases z : b < 64
  · rw [if_pos (show nI b < (64 : Int32) from (nI_ltI (b := 64) (by omega) (by decide)).mpr z), if_pos z]
  · rw [if_neg (show ¬ nI b < (64 : Int32) from fun y => z ((nI_ltI (b := 64) (by omega) (by decide)).mp y)), if_neg z]
/-- the states of use -/
theorem cls_use (h : SX O x c u p f w q s l r E A nw na nt I Kc V S0 lam) (hT : TF s l S0 T) {g t0 e0 : Nat} (hg : g ≤ 7) (h13 : T.1 s 13 0 = nI t0) (h14 : T.1 s 14 0 = nI e0) (ht : t0 ≤ 64) (he : e0 ≤ 16) :
    G_XSearch_statesOfUse O n s (nI g) T = some (below (if nw ≤ g ∧ 0 < e0 then t0 + 1 else t0), T) := by
  have hO := h.hO
  have l7 := h.hR.2.2.2.1
  obtain ⟨⟨h1, h2, h3, h4, h5, h6, h7⟩, _⟩ := hO
  unfold G_XSearch_statesOfUse G_XSearch_statesOfUse_13 G_XSearch_statesOfUse_34 G_XSearch_statesOfUse_38
  rw [uI (ci := 8) h6 (by decide), hT.2.1 12 (by decide) (by decide) (by decide) (by decide), h.c12]
  by_cases z : g < nw
  · rw [if_pos ((nI_ltI (by omega) (by omega)).mpr z), if_pos rfl, uI (ci := 8) h6 (by decide), h13, cls_below (by omega), yC_some, if_neg (by omega)]
  · rw [if_neg (fun y => z ((nI_ltI (by omega) (by omega)).mp y)), if_neg (by decide), uI (ci := 8) h6 (by decide), h14]
    by_cases y : e0 = 0
    · subst y
      rw [if_pos (by decide), uI (ci := 8) h6 (by decide), h13, cls_below (by omega), yC_some, if_neg (by omega)]
    · rw [if_neg (show ¬ nI e0 ≤ (0 : Int32) from nI_ge (a := 0) (b := e0) (by omega) (by omega)), uI (ci := 8) h6 (by decide), h13, nI_1, cls_below (by omega), yC_some, if_pos ⟨by omega, by omega⟩]
end RLEVEL
