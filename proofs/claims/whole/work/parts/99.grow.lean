theorem rowOk_congr {κ α β γ κ' α' β' γ' : Nat → Int32} {E E' n : Nat} (hE : E ≤ E') (hn : n < 2 ^ 31) (hS : ∀ m, m < n → rowOk κ α β γ E m) (ag : ∀ m, m ≤ n → κ' m = κ m ∧ α' m = α m ∧ β' m = β m ∧ γ' m = γ m) (h : rowOk κ α β γ E n) : rowOk κ' α' β' γ' E' n := by
  have w : ∀ x, x < n → wd κ' β' x = wd κ β x := wd_congr hS hn (fun m hm => (ag m (Nat.le_of_lt hm)).1) (fun m hm => (ag m (Nat.le_of_lt hm)).2.2.1)
  obtain ⟨a1, a2, a3, a4⟩ := ag n (Nat.le_refl n)
  unfold rowOk
  rw [a1, a2, a3, a4]
  rcases h with h | ⟨h0, h | h | h | h | h | h⟩
  · exact Or.inl h
  · obtain ⟨h1, ⟨e, he, h2⟩, h3⟩ := h
    exact Or.inr ⟨h0, Or.inl ⟨h1, ⟨e, Nat.lt_of_lt_of_le he hE, h2⟩, h3⟩⟩
  · obtain ⟨h1, ⟨x, hx, h2, h3⟩, h4, h5⟩ := h
    refine Or.inr ⟨h0, Or.inr (Or.inl ⟨h1, ⟨x, hx, h2, by rw [w x hx]; exact h3⟩, ?_, h5⟩)⟩
    rcases h4 with h4 | ⟨y, hy, h4, h6⟩
    · exact Or.inl h4
    · exact Or.inr ⟨y, hy, h4, by rw [w y hy]; exact h6⟩
  · obtain ⟨h1, ⟨x, y, hx, hy, h2, h3, h4, h5⟩, h6⟩ := h
    exact Or.inr ⟨h0, Or.inr (Or.inr (Or.inl ⟨h1, ⟨x, y, hx, hy, h2, h3, by rw [w x (by omega)]; exact h4, by rw [w y hy]; exact h5⟩, h6⟩))⟩
  · obtain ⟨h1, ⟨x, h2, hx, h3, h4, h5⟩, h6⟩ := h
    exact Or.inr ⟨h0, Or.inr (Or.inr (Or.inr (Or.inl ⟨h1, ⟨x, h2, hx, h3, by rw [(ag x (Nat.le_of_lt hx)).1]; exact h4, by rw [w x hx]; exact h5⟩, h6⟩)))⟩
  · obtain ⟨h1, ⟨x, y, h2, hx, hy, h3, h4, h5, h6⟩, h7⟩ := h
    exact Or.inr ⟨h0, Or.inr (Or.inr (Or.inr (Or.inr (Or.inl ⟨h1, ⟨x, y, h2, hx, hy, h3, h4, by rw [w x (by omega)]; exact h5, by rw [w y hy]; exact h6⟩, h7⟩))))⟩
  · obtain ⟨h1, x, y, z, h2, hx, hy, hz, h3, h4, h5, h6, h7, h8⟩ := h
    exact Or.inr ⟨h0, Or.inr (Or.inr (Or.inr (Or.inr (Or.inr ⟨h1, x, y, z, h2, hx, hy, hz, h3, h4, h5, h6, by rw [w x hx]; exact h7, by rw [w y hy, w z hz]; exact h8⟩))))⟩
theorem Store_same {κ α β γ κ' α' β' γ' : Nat → Int32} {E E' N : Nat} (hE : E ≤ E') (hN : N < 2 ^ 31) (hS : Store κ α β γ E N) (ag : ∀ m, m < N → κ' m = κ m ∧ α' m = α m ∧ β' m = β m ∧ γ' m = γ m) : Store κ' α' β' γ' E' N := by
  obtain ⟨s0, s1, s2⟩ := hS
  refine ⟨s0, fun n hn => rowOk_congr hE (by omega) (fun m hm => s1 m (by omega)) (fun m hm => ag m (by omega)) (s1 n hn), fun n m hn hm e1 e2 e3 e4 => ?_⟩
  obtain ⟨a1, a2, a3, a4⟩ := ag n hn
  obtain ⟨b1, b2, b3, b4⟩ := ag m hm
  rw [a1, b1] at e1
  rw [a2, b2] at e2
  rw [a3, b3] at e3
  rw [a4, b4] at e4
  exact s2 n m hn hm e1 e2 e3 e4
/-- one node more -/
theorem Store_snoc {κ α β γ κ' α' β' γ' : Nat → Int32} {E E' N : Nat} (hE : E ≤ E') (hN : N + 1 < 2 ^ 31) (hS : Store κ α β γ E N) (ag : ∀ m, m < N → κ' m = κ m ∧ α' m = α m ∧ β' m = β m ∧ γ' m = γ m) (hr : rowOk κ' α' β' γ' E' N)
    (hu : ∀ q, q < N → ¬ (κ q = κ' N ∧ α q = α' N ∧ β q = β' N ∧ γ q = γ' N)) : Store κ' α' β' γ' E' (N + 1) := by
  obtain ⟨s0, s1, s2⟩ := Store_same hE (by omega) hS ag
  have new : ∀ q, q < N → ¬ (κ' q = κ' N ∧ α' q = α' N ∧ β' q = β' N ∧ γ' q = γ' N) := fun q hq e => by
    obtain ⟨a1, a2, a3, a4⟩ := ag q hq
    rw [a1, a2, a3, a4] at e
    exact hu q hq e
  refine ⟨by omega, fun n hn => ?_, fun n m hn hm e1 e2 e3 e4 => ?_⟩
  · rcases Nat.lt_succ_iff_lt_or_eq.mp hn with q | q
    · exact s1 n q
    · rw [q]; exact hr
  · rcases Nat.lt_succ_iff_lt_or_eq.mp hn with q | q <;> rcases Nat.lt_succ_iff_lt_or_eq.mp hm with q' | q'
    · exact s2 n m q q' e1 e2 e3 e4
    · subst q'
      exact absurd ⟨e1, e2, e3, e4⟩ (new n q)
    · subst q
      exact absurd ⟨e1.symm, e2.symm, e3.symm, e4.symm⟩ (new m q')
    · omega
section GROW
variable {O : qOb9} {r n E N : Nat} {S S' : qS}
theorem Face_same (hF : Face r S E N) (hs : ∀ j i, j ≠ 7 → j ≠ 8 → j ≠ 2 → j ≠ 0 → S'.1 r j i = S.1 r j i) : Face r S' E N := by
  obtain ⟨f1, f2, f3, f4, f5⟩ := hF
  refine ⟨by rw [hs 1 0 (by decide) (by decide) (by decide) (by decide)]; exact f1, by rw [hs 9 0 (by decide) (by decide) (by decide) (by decide)]; exact f2, f3, f4, ?_⟩
  exact Store_same (Nat.le_refl E) (by omega) f5 (fun m _ => ⟨hs 3 m (by decide) (by decide) (by decide) (by decide), hs 4 m (by decide) (by decide) (by decide) (by decide), hs 5 m (by decide) (by decide) (by decide) (by decide), hs 6 m (by decide) (by decide) (by decide) (by decide)⟩)
theorem Face_snoc {E' : Nat} {k a b c : Int32} (hF : Face r S E N) (hN : N < 300) (hE : E ≤ E') (hE' : E' ≤ 16) (h1 : S'.1 r 1 0 = nI (N + 1)) (h9 : S'.1 r 9 0 = nI E') (hr : rowIs (S'.1 r) k a b c N) (hs : ∀ j i, 3 ≤ j → j ≤ 6 → i < N → S'.1 r j i = S.1 r j i)
    (hno : ∀ q, q < N → ¬ rowIs (S.1 r) k a b c q) (ok : rowOk (S'.1 r 3) (S'.1 r 4) (S'.1 r 5) (S'.1 r 6) E' N) : Face r S' E' (N + 1) := by
  obtain ⟨f1, f2, f3, f4, f5⟩ := hF
  obtain ⟨w1, w2, w3, w4⟩ := hr
  refine ⟨h1, h9, by omega, hE', Store_snoc hE (by omega) f5 (fun m hm => ⟨hs 3 m (by decide) (by decide) hm, hs 4 m (by decide) (by decide) hm, hs 5 m (by decide) (by decide) hm, hs 6 m (by decide) (by decide) hm⟩) ok (fun q hq e => hno q hq ?_)⟩
  rw [w1, w2, w3, w4] at e
  exact e
/-- an element's row is not there yet: elements are numbered -/
theorem face_word (h : Ref O r) (hn : 7000 ≤ n) (hF : Face r S E N) (hc : ¬ (E = 16 ∨ N = 300)) {k : Int32} (hk : k = 3 ∨ k = 4) : ∃ S', G_XModel_addElement O n r k S = some (nI N, S') ∧ rOnly r S S' ∧ S'.1 r 0 0 = 0 ∧ Face r S' (E + 1) (N + 1) ∧ rowIs (S'.1 r) k (nI E) (-1) (-1) N ∧ S'.1 r 11 E = nI N ∧ S'.1 r 12 E = nI N ∧ S'.1 r 2 0 = nI (N + 1) ∧
      ∀ j i, j ≠ 0 → j ≠ 1 → j ≠ 2 → j ≠ 7 → j ≠ 8 → j ≠ 9 → ¬ (3 ≤ j ∧ j ≤ 6 ∧ i = N) → ¬ (11 ≤ j ∧ j ≤ 12 ∧ i = E) → S'.1 r j i = S.1 r j i := by
  obtain ⟨S', e, o, t, n1, n9, row, e11, e12, e2, hs⟩ := (face_addElement (O := O) (n := n) h hn hF (k := k)).2 hc
  have hb := hF
  obtain ⟨f1, f2, f3, f4, f5⟩ := hb
  have f0 := f5.1
  refine ⟨S', e, o, t, ?_, row, e11, e12, e2, hs⟩
  refine Face_snoc (k := k) (a := nI E) (b := -1) (c := -1) hF (by omega) (Nat.le_succ E) (by omega) n1 n9 row (fun j i h3 h6 hi => hs j i (by omega) (by omega) (by omega) (by omega) (by omega) (by omega) (by omega) (by omega)) ?_ ?_
  · intro q hq hr
    obtain ⟨w1, w2, w3, w4⟩ := hr
    rcases f5.2.1 q hq with ⟨z0, z1, -⟩ | ⟨z0, z | z | z | z | z | z⟩
    · rw [w1] at z1
      rcases hk with hk | hk
      · rw [hk] at z1
        have := (nI_eq (a := 3) (b := q) (by decide) (by omega)).mp z1
        omega
      · rw [hk] at z1
        have := (nI_eq (a := 4) (b := q) (by decide) (by omega)).mp z1
        omega
    · obtain ⟨-, ⟨e9, he, h2⟩, -⟩ := z
      rw [w2] at h2
      have := (nI_eq (by omega) (by omega)).mp h2
      omega
    · rw [w1] at z; rcases hk with hk | hk <;> rw [hk] at z <;> exact absurd z.1 (by decide)
    · rw [w1] at z; rcases hk with hk | hk <;> rw [hk] at z <;> exact absurd z.1 (by decide)
    · rw [w1] at z; rcases hk with hk | hk <;> rw [hk] at z <;> exact absurd z.1 (by decide)
    · rw [w1] at z; rcases hk with hk | hk <;> rw [hk] at z <;> exact absurd z.1 (by decide)
    · rw [w1] at z; rcases hk with hk | hk <;> rw [hk] at z <;> exact absurd z.1 (by decide)
  · obtain ⟨w1, w2, w3, w4⟩ := row
    exact Or.inr ⟨f0, Or.inl ⟨by rw [w1]; exact hk, ⟨E, Nat.lt_succ_self E, w2⟩, w3, w4⟩⟩
end GROW
