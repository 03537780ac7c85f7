/-! A store of nodes: kinds, first, second and third parts. -/
/-- is node n of the sort of words? (f: fuel) -/
def wdF (κ β : Nat → Int32) : Nat → Nat → Bool
  | 0, _ => false
  | f + 1, n => if κ n = 9 then wdF κ β f (β n).toNatClampNeg else decide (κ n = 3) || decide (κ n = 5)
def wd (κ β : Nat → Int32) (n : Nat) : Bool := wdF κ β (n + 1) n
/-- node n is well made of nodes before it -/
def rowOk (κ α β γ : Nat → Int32) (E n : Nat) : Prop :=
  (n < 3 ∧ κ n = nI n ∧ α n = -1 ∧ β n = -1 ∧ γ n = -1) ∨
  (3 ≤ n ∧ (((κ n = 3 ∨ κ n = 4) ∧ (∃ e, e < E ∧ α n = nI e) ∧ β n = -1 ∧ γ n = -1) ∨
    (κ n = 5 ∧ (∃ x, x < n ∧ α n = nI x ∧ wd κ β x = true) ∧ (β n = -1 ∨ ∃ y, y < n ∧ β n = nI y ∧ wd κ β y = true) ∧ ∃ f, f < 8 ∧ γ n = nI f) ∨
    (κ n = 6 ∧ (∃ x y, x < y ∧ y < n ∧ α n = nI x ∧ β n = nI y ∧ wd κ β x = true ∧ wd κ β y = true) ∧ γ n = -1) ∨
    (κ n = 7 ∧ (∃ x, 2 ≤ x ∧ x < n ∧ α n = nI x ∧ ¬ κ x = 7 ∧ wd κ β x = false) ∧ β n = -1 ∧ γ n = -1) ∨
    (κ n = 8 ∧ (∃ x y, 2 ≤ x ∧ x < y ∧ y < n ∧ α n = nI x ∧ β n = nI y ∧ wd κ β x = false ∧ wd κ β y = false) ∧ γ n = -1) ∨
    (κ n = 9 ∧ ∃ x y z, 2 ≤ x ∧ x < n ∧ y < n ∧ z < n ∧ ¬ y = z ∧ α n = nI x ∧ β n = nI y ∧ γ n = nI z ∧ wd κ β x = false ∧ wd κ β y = wd κ β z)))
/-- the first N nodes are well made, each once -/
def Store (κ α β γ : Nat → Int32) (E N : Nat) : Prop := 3 ≤ N ∧ (∀ n, n < N → rowOk κ α β γ E n) ∧ ∀ n m, n < N → m < N → κ n = κ m → α n = α m → β n = β m → γ n = γ m → n = m
theorem row9 {κ α β γ : Nat → Int32} {E n : Nat} (h : rowOk κ α β γ E n) (h9 : κ n = 9) : 3 ≤ n ∧ ∃ x y z, 2 ≤ x ∧ x < n ∧ y < n ∧ z < n ∧ ¬ y = z ∧ α n = nI x ∧ β n = nI y ∧ γ n = nI z ∧ wd κ β x = false ∧ wd κ β y = wd κ β z := by
  rcases h with ⟨h1, h2, -⟩ | ⟨h1, h | h | h | h | h | h⟩
  · rw [h9] at h2
    have h3 : nI 9 = nI n := h2
    have := (nI_eq (by decide) (by omega)).mp h3
    omega
  · rw [h9] at h
    rcases h.1 with q | q <;> exact absurd q (by decide)
  · rw [h9] at h; exact absurd h.1 (by decide)
  · rw [h9] at h; exact absurd h.1 (by decide)
  · rw [h9] at h; exact absurd h.1 (by decide)
  · rw [h9] at h; exact absurd h.1 (by decide)
  · exact ⟨h1, h.2⟩
theorem wdF_any {κ α β γ : Nat → Int32} {E N : Nat} (hS : ∀ n, n < N → rowOk κ α β γ E n) (hN : N < 2 ^ 31) : ∀ n, n < N → ∀ f f', n < f → n < f' → wdF κ β f n = wdF κ β f' n := by
  intro n
  induction n using Nat.strongRecOn with
  | ind n ih =>
    intro hn f f' hf hf'
    obtain ⟨f, rfl⟩ : ∃ q, f = q + 1 := ⟨f - 1, by omega⟩
    obtain ⟨f', rfl⟩ : ∃ q, f' = q + 1 := ⟨f' - 1, by omega⟩
    rw [wdF, wdF]
    by_cases h9 : κ n = 9
    · obtain ⟨-, x, y, z, -, -, hy, -, -, -, e, -⟩ := row9 (hS n hn) h9
      rw [if_pos h9, if_pos h9, e, nI_clamp (by omega)]
      exact ih y hy (by omega) f f' (by omega) (by omega)
    · rw [if_neg h9, if_neg h9]
theorem wd_9 {κ α β γ : Nat → Int32} {E N n y : Nat} (hS : ∀ n, n < N → rowOk κ α β γ E n) (hN : N < 2 ^ 31) (hn : n < N) (h9 : κ n = 9) (e : β n = nI y) (hy : y < n) : wd κ β n = wd κ β y := by
  unfold wd
  rw [wdF, if_pos h9, e, nI_clamp (by omega)]
  exact wdF_any hS hN y (by omega) n (y + 1) hy (by omega)
theorem wd_n9 {κ β : Nat → Int32} {n : Nat} (h9 : ¬ κ n = 9) : wd κ β n = (decide (κ n = 3) || decide (κ n = 5)) := by
  unfold wd
  rw [wdF, if_neg h9]
/-- a longer store with the same first nodes has the same sorts there -/
theorem wd_congr {κ α β γ κ' β' : Nat → Int32} {E N : Nat} (hS : ∀ n, n < N → rowOk κ α β γ E n) (hN : N < 2 ^ 31) (h1 : ∀ n, n < N → κ' n = κ n) (h2 : ∀ n, n < N → β' n = β n) : ∀ n, n < N → wd κ' β' n = wd κ β n := by
  have key : ∀ f n, n < N → wdF κ' β' f n = wdF κ β f n := by
    intro f
    induction f with
    | zero => intro n _; rfl
    | succ f ih =>
      intro n hn
      rw [wdF, wdF, h1 n hn, h2 n hn]
      by_cases h9 : κ n = 9
      · obtain ⟨-, x, y, z, -, -, hy, -, -, -, e, -⟩ := row9 (hS n hn) h9
        rw [if_pos h9, if_pos h9, e, nI_clamp (by omega)]
        exact ih y (by omega)
      · rw [if_neg h9, if_neg h9]
  intro n hn
  exact key _ n hn
/-- the reference's isWord -/
theorem ref_isWord_2 {O : qOb9} {r n N E : Nat} {S : qS} (h : Ref O r) (hN : N ≤ 6400) (hS : ∀ i, i < N → rowOk (S.1 r 3) (S.1 r 4) (S.1 r 5) (S.1 r 6) E i) : ∀ m, m < N → ∀ f, m < f → G_XModel_isWord_2 O n f r (nI m) S = some (bN (wd (S.1 r 3) (S.1 r 5) m), S) := by
  intro m
  induction m using Nat.strongRecOn with
  | ind m ih =>
    intro hm f hf
    obtain ⟨f, rfl⟩ : ∃ q, f = q + 1 := ⟨f - 1, by omega⟩
    have m0 : m < 6400 := by omega
    have m3 : m < refN 3 := m0
    have m5 : m < refN 5 := m0
    rw [G_XModel_isWord_2, rA h (by decide), rl h (by decide) (by decide) m3]
    by_cases h9 : S.1 r 3 m = 9
    · obtain ⟨-, x, y, z, -, -, hy, -, -, -, e, -⟩ := row9 (hS m hm) h9
      rw [if_pos h9, rA h (by decide), rl h (by decide) (by decide) m5, e, ih y hy (by omega) f (by omega), wd_9 hS (by omega) hm h9 e hy]
    · rw [if_neg h9, rA h (by decide), rl h (by decide) (by decide) m3, wd_n9 h9]
      by_cases h3 : S.1 r 3 m = 3
      · rw [if_pos h3, decide_eq_true h3]
        rfl
      · rw [if_neg h3, decide_eq_false h3, rA h (by decide), rl h (by decide) (by decide) m3]
        by_cases h5 : S.1 r 3 m = 5
        · rw [if_pos h5, decide_eq_true h5]
          rfl
        · rw [if_neg h5, decide_eq_false h5]
          rfl
theorem ref_isWord {O : qOb9} {r n N E m : Nat} {S : qS} (h : Ref O r) (hN : N ≤ 6400) (hn : 7000 ≤ n) (hS : ∀ i, i < N → rowOk (S.1 r 3) (S.1 r 4) (S.1 r 5) (S.1 r 6) E i) (hm : m < N) : G_XModel_isWord O n r (nI m) S = some (bN (wd (S.1 r 3) (S.1 r 5) m), S) := by
  unfold G_XModel_isWord
  exact ref_isWord_2 h hN hS m hm n (by omega)
