/-! CODES OF A STORE'S NODES -/
abbrev tN (x : Int32) : Nat := x.toNatClampNeg
def cdF (κ α β γ : Nat → Int32) : Nat → Nat → Nat
  | 0, _ => 0
  | f + 1, n => if κ n = 5 then cA (tN (γ n)) (cdF κ α β γ f (tN (α n))) (if β n < 0 then 0 else cdF κ α β γ f (tN (β n)) + 1)
    else if κ n = 6 then cE (cdF κ α β γ f (tN (α n))) (cdF κ α β γ f (tN (β n)))
    else if κ n = 7 then cN (cdF κ α β γ f (tN (α n)))
    else if κ n = 8 then cB (cdF κ α β γ f (tN (α n))) (cdF κ α β γ f (tN (β n)))
    else if κ n = 9 then cC (cdF κ α β γ f (tN (α n))) (cdF κ α β γ f (tN (β n))) (cdF κ α β γ f (tN (γ n)))
    else pr (tN (κ n)) (tN (α n))
def cd (κ α β γ : Nat → Int32) (n : Nat) : Nat := cdF κ α β γ (n + 1) n
section CD
variable {κ α β γ : Nat → Int32} {E N : Nat}
theorem cdF_any (hS : ∀ n, n < N → rowOk κ α β γ E n) (hN : N < 2 ^ 31) : ∀ n, n < N → ∀ f f', n < f → n < f' → cdF κ α β γ f n = cdF κ α β γ f' n := by
  intro n
  induction n using Nat.strongRecOn with
  | ind n ih =>
    intro hn f f' hf hf'
    obtain ⟨f, rfl⟩ : ∃ q, f = q + 1 := ⟨f - 1, by omega⟩
    obtain ⟨f', rfl⟩ : ∃ q, f' = q + 1 := ⟨f' - 1, by omega⟩
    have key : ∀ q, q < n → cdF κ α β γ f (tN (nI q)) = cdF κ α β γ f' (tN (nI q)) := by
      intro q hq
      show cdF κ α β γ f (nI q).toNatClampNeg = cdF κ α β γ f' (nI q).toNatClampNeg
      rw [nI_clamp (by omega)]
      exact ih q hq (by omega) f f' (by omega) (by omega)
    rw [cdF, cdF]
    rcases hS n hn with ⟨z0, z1, z2, -⟩ | ⟨z0, z | z | z | z | z | z⟩
    · have e : ∀ k : Nat, 5 ≤ k → k < 10 → ¬ κ n = nI k := fun k h1 h2 q => by
        rw [z1] at q
        have := (nI_eq (by omega) (by omega)).mp q
        omega
      have e5 : ¬ κ n = 5 := e 5 (by decide) (by decide)
      have e6 : ¬ κ n = 6 := e 6 (by decide) (by decide)
      have e7 : ¬ κ n = 7 := e 7 (by decide) (by decide)
      have e8 : ¬ κ n = 8 := e 8 (by decide) (by decide)
      have e9 : ¬ κ n = 9 := e 9 (by decide) (by decide)
      simp only [if_neg e5, if_neg e6, if_neg e7, if_neg e8, if_neg e9]
    · rcases z.1 with q | q <;> simp (decide := true) only [if_true, if_false, q]
    · obtain ⟨k, ⟨x, hx, ex, -⟩, hb, -⟩ := z
      simp only [k, ex, if_true]
      rw [key x hx]
      rcases hb with hb | ⟨y, hy, ey, -⟩
      · rw [hb]; rfl
      · rw [ey, key y hy]
    · obtain ⟨k, ⟨x, y, hx, hy, ex, ey, -⟩, -⟩ := z
      simp (decide := true) only [if_true, if_false, k, ex, ey, key x (by omega), key y hy]
    · obtain ⟨k, ⟨x, -, hx, ex, -⟩, -⟩ := z
      simp (decide := true) only [if_true, if_false, k, ex, key x hx]
    · obtain ⟨k, ⟨x, y, -, hx, hy, ex, ey, -⟩, -⟩ := z
      simp (decide := true) only [if_true, if_false, k, ex, ey, key x (by omega), key y hy]
    · obtain ⟨k, x, y, z, -, hx, hy, hz, -, ex, ey, ez, -⟩ := z
      simp (decide := true) only [if_true, if_false, k, ex, ey, ez, key x hx, key y hy, key z hz]
/-- a node and its code -/
theorem cd_row (hS : ∀ n, n < N → rowOk κ α β γ E n) (hN : N < 2 ^ 31) (hE : E ≤ 16) {n : Nat} (hn : n < N) :
    (n < 3 ∧ κ n = nI n ∧ α n = -1 ∧ cd κ α β γ n = pr n 0) ∨
    (3 ≤ n ∧ ∃ e, e < E ∧ κ n = 3 ∧ α n = nI e ∧ cd κ α β γ n = cW e) ∨
    (3 ≤ n ∧ ∃ e, e < E ∧ κ n = 4 ∧ α n = nI e ∧ cd κ α β γ n = cU e) ∨
    (3 ≤ n ∧ ∃ x g, x < n ∧ g < 8 ∧ κ n = 5 ∧ α n = nI x ∧ β n = -1 ∧ γ n = nI g ∧ wd κ β x = true ∧ cd κ α β γ n = cA g (cd κ α β γ x) 0) ∨
    (3 ≤ n ∧ ∃ x y g, x < n ∧ y < n ∧ g < 8 ∧ κ n = 5 ∧ α n = nI x ∧ β n = nI y ∧ γ n = nI g ∧ wd κ β x = true ∧ wd κ β y = true ∧ cd κ α β γ n = cA g (cd κ α β γ x) (cd κ α β γ y + 1)) ∨
    (3 ≤ n ∧ ∃ x y, x < y ∧ y < n ∧ κ n = 6 ∧ α n = nI x ∧ β n = nI y ∧ γ n = -1 ∧ wd κ β x = true ∧ wd κ β y = true ∧ cd κ α β γ n = cE (cd κ α β γ x) (cd κ α β γ y)) ∨
    (3 ≤ n ∧ ∃ x, 2 ≤ x ∧ x < n ∧ κ n = 7 ∧ α n = nI x ∧ β n = -1 ∧ γ n = -1 ∧ ¬ κ x = 7 ∧ wd κ β x = false ∧ cd κ α β γ n = cN (cd κ α β γ x)) ∨
    (3 ≤ n ∧ ∃ x y, 2 ≤ x ∧ x < y ∧ y < n ∧ κ n = 8 ∧ α n = nI x ∧ β n = nI y ∧ γ n = -1 ∧ wd κ β x = false ∧ wd κ β y = false ∧ cd κ α β γ n = cB (cd κ α β γ x) (cd κ α β γ y)) ∨
    (3 ≤ n ∧ ∃ x y z, 2 ≤ x ∧ x < n ∧ y < n ∧ z < n ∧ ¬ y = z ∧ κ n = 9 ∧ α n = nI x ∧ β n = nI y ∧ γ n = nI z ∧ wd κ β x = false ∧ wd κ β y = wd κ β z ∧ cd κ α β γ n = cC (cd κ α β γ x) (cd κ α β γ y) (cd κ α β γ z)) := by
  have key : ∀ q, q < n → cdF κ α β γ n (tN (nI q)) = cd κ α β γ q := by
    intro q hq
    show cdF κ α β γ n (nI q).toNatClampNeg = cdF κ α β γ (q + 1) q
    rw [nI_clamp (by omega)]
    exact cdF_any hS hN q (by omega) n (q + 1) hq (by omega)
  have st : cd κ α β γ n = cdF κ α β γ (n + 1) n := rfl
  rw [cdF] at st
  rcases hS n hn with ⟨z0, z1, z2, -⟩ | ⟨z0, z | z | z | z | z | z⟩
  · refine Or.inl ⟨z0, z1, z2, ?_⟩
    have e : ∀ k : Nat, 5 ≤ k → k < 10 → ¬ κ n = nI k := fun k h1 h2 q => by
      rw [z1] at q
      have := (nI_eq (by omega) (by omega)).mp q
      omega
    have e5 : ¬ κ n = 5 := e 5 (by decide) (by decide)
    have e6 : ¬ κ n = 6 := e 6 (by decide) (by decide)
    have e7 : ¬ κ n = 7 := e 7 (by decide) (by decide)
    have e8 : ¬ κ n = 8 := e 8 (by decide) (by decide)
    have e9 : ¬ κ n = 9 := e 9 (by decide) (by decide)
    simp only [if_neg e5, if_neg e6, if_neg e7, if_neg e8, if_neg e9] at st
    rw [st, z1, z2]
    show pr (nI n).toNatClampNeg (-1 : Int32).toNatClampNeg = pr n 0
    rw [nI_clamp (by omega)]
    rfl
  · obtain ⟨k, ⟨e, he, ea⟩, -⟩ := z
    have te : tN (nI e) = e := nI_clamp (by omega)
    rcases k with k | k
    · simp (decide := true) only [if_true, if_false, k, ea, te] at st
      exact Or.inr (Or.inl ⟨z0, e, he, k, ea, st⟩)
    · simp (decide := true) only [if_true, if_false, k, ea, te] at st
      exact Or.inr (Or.inr (Or.inl ⟨z0, e, he, k, ea, st⟩))
  · obtain ⟨k, ⟨x, hx, ex, wx⟩, hb, g, hg, eg⟩ := z
    have tg : tN (nI g) = g := nI_clamp (by omega)
    rcases hb with hb | ⟨y, hy, ey, wy⟩
    · simp (decide := true) only [if_true, if_false, k, ex, hb, eg, tg, key x hx] at st
      exact Or.inr (Or.inr (Or.inr (Or.inl ⟨z0, x, g, hx, hg, k, ex, hb, eg, wx, st⟩)))
    · simp (decide := true) only [if_true, if_false, k, ex, ey, eg, tg, key x hx, key y hy, nI_pos (show y < 2 ^ 31 by omega)] at st
      exact Or.inr (Or.inr (Or.inr (Or.inr (Or.inl ⟨z0, x, y, g, hx, hy, hg, k, ex, ey, eg, wx, wy, st⟩))))
  · obtain ⟨k, ⟨x, y, hx, hy, ex, ey, wx, wy⟩, c1⟩ := z
    simp (decide := true) only [if_true, if_false, k, ex, ey, key x (show x < n by omega), key y hy] at st
    exact Or.inr (Or.inr (Or.inr (Or.inr (Or.inr (Or.inl ⟨z0, x, y, hx, hy, k, ex, ey, c1, wx, wy, st⟩)))))
  · obtain ⟨k, ⟨x, x2, hx, ex, nx, wx⟩, b1, c1⟩ := z
    simp (decide := true) only [if_true, if_false, k, ex, key x hx] at st
    exact Or.inr (Or.inr (Or.inr (Or.inr (Or.inr (Or.inr (Or.inl ⟨z0, x, x2, hx, k, ex, b1, c1, nx, wx, st⟩))))))
  · obtain ⟨k, ⟨x, y, x2, hx, hy, ex, ey, wx, wy⟩, c1⟩ := z
    simp (decide := true) only [if_true, if_false, k, ex, ey, key x (show x < n by omega), key y hy] at st
    exact Or.inr (Or.inr (Or.inr (Or.inr (Or.inr (Or.inr (Or.inr (Or.inl ⟨z0, x, y, x2, hx, hy, k, ex, ey, c1, wx, wy, st⟩)))))))
  · obtain ⟨k, x, y, z, x2, hx, hy, hz, ne, ex, ey, ez, wx, we⟩ := z
    simp (decide := true) only [if_true, if_false, k, ex, ey, ez, key x hx, key y hy, key z hz] at st
    exact Or.inr (Or.inr (Or.inr (Or.inr (Or.inr (Or.inr (Or.inr (Or.inr ⟨z0, x, y, z, x2, hx, hy, hz, ne, k, ex, ey, ez, wx, we, st⟩)))))))
end CD
