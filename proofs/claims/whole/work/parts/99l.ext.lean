section EXT
variable {O : qOb9} {r n E A : Nat} {S : qS}
/-- the longer store of a question: A nodes, in their chains -/
def Ext (r : Nat) (S : qS) (E A : Nat) : Prop := S.1 r 2 0 = nI A ∧ A ≤ 6400 ∧ Store (S.1 r 3) (S.1 r 4) (S.1 r 5) (S.1 r 6) E A ∧ rChain (S.1 r) A
/-- node v is what this row comes to -/
def Made (σ : Nat → Nat → Int32) (k a b c : Int32) (v : Nat) : Prop := (¬ rPl σ k a b c < 0 ∧ rPl σ k a b c = nI v) ∨ (rPl σ k a b c < 0 ∧ rowIs σ k (rFst k a b) (rSnd k a b) c v)
theorem ext_make (h : Ref O r) (hn : 7000 ≤ n) (hX : Ext r S E A) (hA : A < 6400) {k a b c : Int32} (ha : k = 7 → ∃ m, m < A ∧ a = nI m) (hL : Lay r S E A k a b c) (h0 : ¬ rPl (S.1 r) k a b c < 0 → ∃ q, q < A ∧ rPl (S.1 r) k a b c = nI q) :
    ∃ v A' S', G_XModel_make O n r k a b c S = some (nI v, S') ∧ v < A' ∧ A ≤ A' ∧ A' ≤ A + 1 ∧ Ext r S' E A' ∧ rOnly r S S' ∧ (∀ j i, j ≠ 7 → j ≠ 8 → j ≠ 2 → ¬ (3 ≤ j ∧ j ≤ 6 ∧ A ≤ i) → S'.1 r j i = S.1 r j i) ∧
      ((¬ rPl (S.1 r) k a b c < 0 ∧ rPl (S.1 r) k a b c = nI v) ∨ (rPl (S.1 r) k a b c < 0 ∧ rowIs (S'.1 r) k (rFst k a b) (rSnd k a b) c v)) ∧ (A' = A ∨ (A' = A + 1 ∧ S'.1 r 3 A = k)) := by
  obtain ⟨x1, x2, x3, x4⟩ := hX
  obtain ⟨m1, m2⟩ := ref_make (O := O) (n := n) (k := k) (a := a) (b := b) (c := c) (S := S) h hA hn x1 x4 (fun q => by
    obtain ⟨m, hm, e⟩ := ha q
    exact ⟨m, by omega, e⟩)
  by_cases hp : rPl (S.1 r) k a b c < 0
  · rw [m2 hp]
    obtain ⟨v, S', e, hc⟩ := ref_get (O := O) (n := n) (k := k) (a := rFst k a b) (b := rSnd k a b) (c := c) (S := S) h hA hn x1 x4
    rcases hc with ⟨hv, rfl, hr⟩ | ⟨rfl, hno, o, row, hs, n1, c1⟩
    · exact ⟨v, A, S', e, hv, Nat.le_refl A, Nat.le_succ A, ⟨x1, x2, x3, x4⟩, rOnly.refl, fun _ _ _ _ _ _ => rfl, Or.inr ⟨hp, hr⟩, Or.inl rfl⟩
    · have low : ∀ j i, 3 ≤ j → j ≤ 6 → i < v → S'.1 r j i = S.1 r j i := fun j i h3 h6 hi => hs j i (by omega) (by omega) (by omega) (by omega)
      have ag : ∀ m, m < v → S'.1 r 3 m = S.1 r 3 m ∧ S'.1 r 4 m = S.1 r 4 m ∧ S'.1 r 5 m = S.1 r 5 m ∧ S'.1 r 6 m = S.1 r 6 m := fun m hm => ⟨low 3 m (by decide) (by decide) hm, low 4 m (by decide) (by decide) hm, low 5 m (by decide) (by decide) hm, low 6 m (by decide) (by decide) hm⟩
      refine ⟨v, v + 1, S', e, Nat.lt_succ_self v, Nat.le_succ v, Nat.le_refl _, ⟨n1, by omega, ?_, c1⟩, o, fun j i h7 h8 h2 hne => hs j i h7 h8 h2 (by omega), Or.inr ⟨hp, row⟩, Or.inr ⟨rfl, row.1⟩⟩
      obtain ⟨w1, w2, w3, w4⟩ := row
      refine Store_snoc (Nat.le_refl E) (by omega) x3 ag (hL _ _ _ _ ag w1 w2 w3 w4 hp) (fun q hq z => hno q hq ?_)
      rw [w1, w2, w3, w4] at z
      exact z
  · rw [m1 hp]
    obtain ⟨q, hq, e⟩ := h0 hp
    exact ⟨q, A, S, by rw [e], hq, Nat.le_refl A, Nat.le_succ A, ⟨x1, x2, x3, x4⟩, rOnly.refl, fun _ _ _ _ _ _ => rfl, Or.inl ⟨hp, e⟩, Or.inl rfl⟩
end EXT
