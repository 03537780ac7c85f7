theorem rowH_congr {σ τ : Nat → Nat → Int32} {i : Nat} (h : ∀ j, 3 ≤ j → j ≤ 6 → τ j i = σ j i) : rowH τ i = rowH σ i := by
  unfold rowH
  rw [h 3 (by decide) (by decide), h 4 (by decide) (by decide), h 5 (by decide) (by decide), h 6 (by decide) (by decide)]
theorem rChain_congr {σ τ : Nat → Nat → Int32} {N : Nat} (hr : ∀ i j, i < N → 3 ≤ j → j ≤ 6 → τ j i = σ j i) (h7 : ∀ i, τ 7 i = σ 7 i) (h8 : ∀ i, i < N → τ 8 i = σ 8 i) (hc : rChain σ N) : rChain τ N := by
  have hh : ∀ i, i < N → rowH τ i = rowH σ i := fun i hi => rowH_congr fun j h1 h2 => hr i j hi h1 h2
  refine ⟨fun x hx => ?_, fun i hi => ?_⟩
  · rw [h7, hc.1 x hx]
    exact rTop_congr fun i hi => (hh i hi).symm
  · rw [h8 i hi, hc.2 i hi, hh i hi]
    exact rTop_congr fun q hq => (hh q (Nat.lt_trans hq hi)).symm
/-- add: one row more -/
theorem ref_add {O : qOb9} {r n N : Nat} {k a b c : Int32} {S : qS} (h : Ref O r) (hN : N < 6400) (hall : S.1 r 2 0 = nI N) (hc : rChain (S.1 r) N) :
    ∃ S', G_XModel_add O n r k a b c S = some (nI N, S') ∧ rOnly r S S' ∧ rowIs (S'.1 r) k a b c N ∧ (∀ j i, j ≠ 7 → j ≠ 8 → j ≠ 2 → ¬ (3 ≤ j ∧ j ≤ 6 ∧ i = N) → S'.1 r j i = S.1 r j i) ∧ S'.1 r 2 0 = nI (N + 1) ∧ rChain (S'.1 r) (N + 1) := by
  unfold G_XModel_add
  have i3 : N < refN 3 := hN
  have i4 : N < refN 4 := hN
  have i5 : N < refN 5 := hN
  have i6 : N < refN 6 := hN
  rw [rA h (by decide), rI h (by decide), hall, rw' h (by decide) (by decide) i3]
  have v1 : ∀ j i, ((up3 S.1 r 3 N k, S.2) : qS).1 r j i = if j = 3 ∧ i = N then k else S.1 r j i := fun j i => up3_at _ _ _ _ _ _ _
  have o1 : rOnly r S (up3 S.1 r 3 N k, S.2) := rOnly.up
  generalize ((up3 S.1 r 3 N k, S.2) : qS) = S1 at v1 o1 ⊢
  have a1 : S1.1 r 2 0 = nI N := by rw [v1, if_neg (fun q => absurd q.1 (by decide))]; exact hall
  rw [rA h (by decide), rI h (by decide), a1, rw' h (by decide) (by decide) i4]
  have v2 : ∀ j i, ((up3 S1.1 r 4 N a, S1.2) : qS).1 r j i = if j = 4 ∧ i = N then a else S1.1 r j i := fun j i => up3_at _ _ _ _ _ _ _
  have o2 : rOnly r S1 (up3 S1.1 r 4 N a, S1.2) := rOnly.up
  generalize ((up3 S1.1 r 4 N a, S1.2) : qS) = S2 at v2 o2 ⊢
  have a2 : S2.1 r 2 0 = nI N := by rw [v2, if_neg (fun q => absurd q.1 (by decide))]; exact a1
  rw [rA h (by decide), rI h (by decide), a2, rw' h (by decide) (by decide) i5]
  have v3 : ∀ j i, ((up3 S2.1 r 5 N b, S2.2) : qS).1 r j i = if j = 5 ∧ i = N then b else S2.1 r j i := fun j i => up3_at _ _ _ _ _ _ _
  have o3 : rOnly r S2 (up3 S2.1 r 5 N b, S2.2) := rOnly.up
  generalize ((up3 S2.1 r 5 N b, S2.2) : qS) = S3 at v3 o3 ⊢
  have a3 : S3.1 r 2 0 = nI N := by rw [v3, if_neg (fun q => absurd q.1 (by decide))]; exact a2
  rw [rA h (by decide), rI h (by decide), a3, rw' h (by decide) (by decide) i6]
  have v4 : ∀ j i, ((up3 S3.1 r 6 N c, S3.2) : qS).1 r j i = if j = 6 ∧ i = N then c else S3.1 r j i := fun j i => up3_at _ _ _ _ _ _ _
  have o4 : rOnly r S3 (up3 S3.1 r 6 N c, S3.2) := rOnly.up
  generalize ((up3 S3.1 r 6 N c, S3.2) : qS) = S4 at v4 o4 ⊢
  have a4 : S4.1 r 2 0 = nI N := by rw [v4, if_neg (fun q => absurd q.1 (by decide))]; exact a3
  have hold : ∀ j i, ¬ (3 ≤ j ∧ j ≤ 6 ∧ i = N) → S4.1 r j i = S.1 r j i := by
    intro j i hne
    rw [v4, if_neg (fun q => hne ⟨by omega, by omega, q.2⟩), v3, if_neg (fun q => hne ⟨by omega, by omega, q.2⟩), v2, if_neg (fun q => hne ⟨by omega, by omega, q.2⟩), v1, if_neg (fun q => hne ⟨by omega, by omega, q.2⟩)]
  have row : rowIs (S4.1 r) k a b c N := by
    refine ⟨?_, ?_, ?_, ?_⟩
    · rw [v4, if_neg (fun q => absurd q.1 (by decide)), v3, if_neg (fun q => absurd q.1 (by decide)), v2, if_neg (fun q => absurd q.1 (by decide)), v1, if_pos ⟨rfl, rfl⟩]
    · rw [v4, if_neg (fun q => absurd q.1 (by decide)), v3, if_neg (fun q => absurd q.1 (by decide)), v2, if_pos ⟨rfl, rfl⟩]
    · rw [v4, if_neg (fun q => absurd q.1 (by decide)), v3, if_pos ⟨rfl, rfl⟩]
    · rw [v4, if_pos ⟨rfl, rfl⟩]
  have hc4 : rChain (S4.1 r) N := rChain_congr (fun i j hi h1 h2 => hold j i (fun q => by omega)) (fun i => hold 7 i (fun q => by omega)) (fun i _ => hold 8 i (fun q => by omega)) hc
  obtain ⟨S5, e5, o5, s5, c5⟩ := ref_link_chain (O := O) (n := n) (S := S4) h hN hc4
  have a5 : S5.1 r 2 0 = nI N := by rw [s5 2 0 (by decide) (by decide)]; exact a4
  rw [rI h (by decide), a4, rk h, e5, yV_some, rI h (by decide), a5, rP h (by decide), nI_1]
  have v6 : ∀ j i, ((up3 S5.1 r 2 0 (nI (N + 1)), S5.2) : qS).1 r j i = if j = 2 ∧ i = 0 then nI (N + 1) else S5.1 r j i := fun j i => up3_at _ _ _ _ _ _ _
  have o6 : rOnly r S5 (up3 S5.1 r 2 0 (nI (N + 1)), S5.2) := rOnly.up
  generalize ((up3 S5.1 r 2 0 (nI (N + 1)), S5.2) : qS) = S6 at v6 o6 ⊢
  have a6 : S6.1 r 2 0 = nI (N + 1) := by rw [v6, if_pos ⟨rfl, rfl⟩]
  have n6 : ∀ j i, j ≠ 2 → S6.1 r j i = S5.1 r j i := fun j i hj => by rw [v6, if_neg (fun q => hj q.1)]
  rw [rI h (by decide), a6, nI_pred]
  refine ⟨S6, rfl, ((((o1.trans o2).trans o3).trans o4).trans o5).trans o6, ?_, fun j i h7 h8 h2 hne => ?_, a6, ?_⟩
  · obtain ⟨w1, w2, w3, w4⟩ := row
    exact ⟨by rw [n6 3 _ (by decide), s5 3 _ (by decide) (by decide)]; exact w1, by rw [n6 4 _ (by decide), s5 4 _ (by decide) (by decide)]; exact w2, by rw [n6 5 _ (by decide), s5 5 _ (by decide) (by decide)]; exact w3, by rw [n6 6 _ (by decide), s5 6 _ (by decide) (by decide)]; exact w4⟩
  · rw [n6 j i h2, s5 j i h7 h8, hold j i hne]
  · exact rChain_congr (fun i j _ h1 h2 => n6 j i (by omega)) (fun i => n6 7 i (by decide)) (fun i _ => n6 8 i (by decide)) c5
/-- what a row is without a node of its own, or NONE -/
def rPl (σ : Nat → Nat → Int32) (k a b c : Int32) : Int32 :=
  if k = 6 then (if a = b then 1 else -1)
  else if k = 7 then (if a = 1 then 0 else if a = 0 then 1 else if σ 3 a.toNatClampNeg = 7 then σ 4 a.toNatClampNeg else -1)
  else if k = 8 then (if a = 0 then 0 else if b = 0 then 0 else if a = 1 then b else if b = 1 then a else if a = b then a else -1)
  else if k = 9 then (if a = 1 then b else if a = 0 then c else if b = c then b else -1)
  else -1
theorem ref_plainest {O : qOb9} {r n : Nat} {k a b c : Int32} {S : qS} (h : Ref O r) (ha : k = 7 → ∃ m, m < 6400 ∧ a = nI m) : G_XModel_plainest O n r k a b c S = some (rPl (S.1 r) k a b c, S) := by
  have key : ¬ k = 6 ∨ ¬ a = b → G_XModel_plainest_13 O n r k a b c S = some (rPl (S.1 r) k a b c, S) := by
    intro hq
    unfold G_XModel_plainest_13 rPl
    by_cases k6 : k = 6
    · subst k6
      have hab : ¬ a = b := hq.resolve_left (fun q => q rfl)
      rw [if_neg (by decide), if_neg (by decide), if_neg (by decide), if_pos rfl, if_neg hab]
    · rw [if_neg k6]
      by_cases k7 : k = 7
      · rw [if_pos k7, if_pos k7]
        by_cases a1 : a = 1
        · rw [if_pos a1, if_pos a1]; rfl
        · rw [if_neg a1, if_neg a1]
          by_cases a0 : a = 0
          · rw [if_pos a0, if_pos a0]; rfl
          · rw [if_neg a0, if_neg a0]
            obtain ⟨m, hm, rfl⟩ := ha k7
            have m3 : m < refN 3 := hm
            have m4 : m < refN 4 := hm
            rw [rA h (by decide), rl h (by decide) (by decide) m3, nI_clamp (by omega)]
            by_cases q7 : S.1 r 3 m = 7
            · rw [if_pos q7, if_pos q7, rA h (by decide), rl h (by decide) (by decide) m4]; rfl
            · rw [if_neg q7, if_neg q7]; rfl
      · rw [if_neg k7, if_neg k7]
        by_cases k8 : k = 8
        · rw [if_pos k8, if_pos k8]
          by_cases a0 : a = 0
          · rw [if_pos a0, if_pos a0]; rfl
          · rw [if_neg a0, if_neg a0]
            by_cases b0 : b = 0
            · rw [if_pos b0, if_pos b0]; rfl
            · rw [if_neg b0, if_neg b0]
              by_cases a1 : a = 1
              · rw [if_pos a1, if_pos a1]; rfl
              · rw [if_neg a1, if_neg a1]
                by_cases b1 : b = 1
                · rw [if_pos b1, if_pos b1]; rfl
                · rw [if_neg b1, if_neg b1]
                  by_cases ab : a = b
                  · rw [if_pos ab, if_pos ab]; rfl
                  · rw [if_neg ab, if_neg ab]; rfl
        · rw [if_neg k8, if_neg k8]
          by_cases k9 : k = 9
          · rw [if_pos k9, if_pos k9]
            by_cases a1 : a = 1
            · rw [if_pos a1, if_pos a1]; rfl
            · rw [if_neg a1, if_neg a1]
              by_cases a0 : a = 0
              · rw [if_pos a0, if_pos a0]; rfl
              · rw [if_neg a0, if_neg a0]
                by_cases bc : b = c
                · rw [if_pos bc, if_pos bc]; rfl
                · rw [if_neg bc, if_neg bc]; rfl
          · rw [if_neg k9, if_neg k9]
  unfold G_XModel_plainest
  by_cases k6 : k = 6
  · rw [if_pos k6]
    by_cases ab : a = b
    · rw [if_pos ab]
      unfold rPl
      rw [if_pos k6, if_pos ab]
    · rw [if_neg ab]
      exact key (Or.inr ab)
  · rw [if_neg k6]
    exact key (Or.inl k6)
