section ROWS
variable {κ α β γ : Nat → Int32} {E N n : Nat}
theorem row_3 (hS : ∀ n, n < N → rowOk κ α β γ E n) (hN : N < 2 ^ 31) (hE : E ≤ 16) (hn : n < N) (hk : κ n = 3) : 3 ≤ n ∧ ∃ e, e < E ∧ κ n = 3 ∧ α n = nI e ∧ cd κ α β γ n = cW e := by
  rcases cd_row hS hN hE hn with ⟨h0, k, _⟩ | h | ⟨_, _, _, k, _⟩ | ⟨_, _, _, _, _, k, _⟩ | ⟨_, _, _, _, _, _, _, k, _⟩ | ⟨_, _, _, _, _, k, _⟩ | ⟨_, _, _, _, k, _⟩ | ⟨_, _, _, _, _, _, k, _⟩ | ⟨_, _, _, _, _, _, _, _, _, k, _⟩
  · rw [k] at hk
    have := (nI_eq (a := n) (b := 3) (by omega) (by decide)).mp hk
    omega
  · exact h
  · rw [k] at hk; exact absurd hk (by decide)
  · rw [k] at hk; exact absurd hk (by decide)
  · rw [k] at hk; exact absurd hk (by decide)
  · rw [k] at hk; exact absurd hk (by decide)
  · rw [k] at hk; exact absurd hk (by decide)
  · rw [k] at hk; exact absurd hk (by decide)
  · rw [k] at hk; exact absurd hk (by decide)
theorem row_4 (hS : ∀ n, n < N → rowOk κ α β γ E n) (hN : N < 2 ^ 31) (hE : E ≤ 16) (hn : n < N) (hk : κ n = 4) : 3 ≤ n ∧ ∃ e, e < E ∧ κ n = 4 ∧ α n = nI e ∧ cd κ α β γ n = cU e := by
  rcases cd_row hS hN hE hn with ⟨h0, k, _⟩ | ⟨_, _, _, k, _⟩ | h | ⟨_, _, _, _, _, k, _⟩ | ⟨_, _, _, _, _, _, _, k, _⟩ | ⟨_, _, _, _, _, k, _⟩ | ⟨_, _, _, _, k, _⟩ | ⟨_, _, _, _, _, _, k, _⟩ | ⟨_, _, _, _, _, _, _, _, _, k, _⟩
  · rw [k] at hk
    have := (nI_eq (a := n) (b := 4) (by omega) (by decide)).mp hk
    omega
  · rw [k] at hk; exact absurd hk (by decide)
  · exact h
  · rw [k] at hk; exact absurd hk (by decide)
  · rw [k] at hk; exact absurd hk (by decide)
  · rw [k] at hk; exact absurd hk (by decide)
  · rw [k] at hk; exact absurd hk (by decide)
  · rw [k] at hk; exact absurd hk (by decide)
  · rw [k] at hk; exact absurd hk (by decide)
theorem row_5 (hS : ∀ n, n < N → rowOk κ α β γ E n) (hN : N < 2 ^ 31) (hE : E ≤ 16) (hn : n < N) (hk : κ n = 5) : (3 ≤ n ∧ ∃ x g, x < n ∧ g < 8 ∧ κ n = 5 ∧ α n = nI x ∧ β n = -1 ∧ γ n = nI g ∧ wd κ β x = true ∧ cd κ α β γ n = cA g (cd κ α β γ x) 0) ∨ (3 ≤ n ∧ ∃ x y g, x < n ∧ y < n ∧ g < 8 ∧ κ n = 5 ∧ α n = nI x ∧ β n = nI y ∧ γ n = nI g ∧ wd κ β x = true ∧ wd κ β y = true ∧ cd κ α β γ n = cA g (cd κ α β γ x) (cd κ α β γ y + 1)) := by
  rcases cd_row hS hN hE hn with ⟨h0, k, _⟩ | ⟨_, _, _, k, _⟩ | ⟨_, _, _, k, _⟩ | h | h | ⟨_, _, _, _, _, k, _⟩ | ⟨_, _, _, _, k, _⟩ | ⟨_, _, _, _, _, _, k, _⟩ | ⟨_, _, _, _, _, _, _, _, _, k, _⟩
  · rw [k] at hk
    have := (nI_eq (a := n) (b := 5) (by omega) (by decide)).mp hk
    omega
  · rw [k] at hk; exact absurd hk (by decide)
  · rw [k] at hk; exact absurd hk (by decide)
  · exact Or.inl h
  · exact Or.inr h
  · rw [k] at hk; exact absurd hk (by decide)
  · rw [k] at hk; exact absurd hk (by decide)
  · rw [k] at hk; exact absurd hk (by decide)
  · rw [k] at hk; exact absurd hk (by decide)
theorem row_6 (hS : ∀ n, n < N → rowOk κ α β γ E n) (hN : N < 2 ^ 31) (hE : E ≤ 16) (hn : n < N) (hk : κ n = 6) : 3 ≤ n ∧ ∃ x y, x < y ∧ y < n ∧ κ n = 6 ∧ α n = nI x ∧ β n = nI y ∧ γ n = -1 ∧ wd κ β x = true ∧ wd κ β y = true ∧ cd κ α β γ n = cE (cd κ α β γ x) (cd κ α β γ y) := by
  rcases cd_row hS hN hE hn with ⟨h0, k, _⟩ | ⟨_, _, _, k, _⟩ | ⟨_, _, _, k, _⟩ | ⟨_, _, _, _, _, k, _⟩ | ⟨_, _, _, _, _, _, _, k, _⟩ | h | ⟨_, _, _, _, k, _⟩ | ⟨_, _, _, _, _, _, k, _⟩ | ⟨_, _, _, _, _, _, _, _, _, k, _⟩
  · rw [k] at hk
    have := (nI_eq (a := n) (b := 6) (by omega) (by decide)).mp hk
    omega
  · rw [k] at hk; exact absurd hk (by decide)
  · rw [k] at hk; exact absurd hk (by decide)
  · rw [k] at hk; exact absurd hk (by decide)
  · rw [k] at hk; exact absurd hk (by decide)
  · exact h
  · rw [k] at hk; exact absurd hk (by decide)
  · rw [k] at hk; exact absurd hk (by decide)
  · rw [k] at hk; exact absurd hk (by decide)
theorem row_7 (hS : ∀ n, n < N → rowOk κ α β γ E n) (hN : N < 2 ^ 31) (hE : E ≤ 16) (hn : n < N) (hk : κ n = 7) : 3 ≤ n ∧ ∃ x, 2 ≤ x ∧ x < n ∧ κ n = 7 ∧ α n = nI x ∧ β n = -1 ∧ γ n = -1 ∧ ¬ κ x = 7 ∧ wd κ β x = false ∧ cd κ α β γ n = cN (cd κ α β γ x) := by
  rcases cd_row hS hN hE hn with ⟨h0, k, _⟩ | ⟨_, _, _, k, _⟩ | ⟨_, _, _, k, _⟩ | ⟨_, _, _, _, _, k, _⟩ | ⟨_, _, _, _, _, _, _, k, _⟩ | ⟨_, _, _, _, _, k, _⟩ | h | ⟨_, _, _, _, _, _, k, _⟩ | ⟨_, _, _, _, _, _, _, _, _, k, _⟩
  · rw [k] at hk
    have := (nI_eq (a := n) (b := 7) (by omega) (by decide)).mp hk
    omega
  · rw [k] at hk; exact absurd hk (by decide)
  · rw [k] at hk; exact absurd hk (by decide)
  · rw [k] at hk; exact absurd hk (by decide)
  · rw [k] at hk; exact absurd hk (by decide)
  · rw [k] at hk; exact absurd hk (by decide)
  · exact h
  · rw [k] at hk; exact absurd hk (by decide)
  · rw [k] at hk; exact absurd hk (by decide)
theorem row_8 (hS : ∀ n, n < N → rowOk κ α β γ E n) (hN : N < 2 ^ 31) (hE : E ≤ 16) (hn : n < N) (hk : κ n = 8) : 3 ≤ n ∧ ∃ x y, 2 ≤ x ∧ x < y ∧ y < n ∧ κ n = 8 ∧ α n = nI x ∧ β n = nI y ∧ γ n = -1 ∧ wd κ β x = false ∧ wd κ β y = false ∧ cd κ α β γ n = cB (cd κ α β γ x) (cd κ α β γ y) := by
  rcases cd_row hS hN hE hn with ⟨h0, k, _⟩ | ⟨_, _, _, k, _⟩ | ⟨_, _, _, k, _⟩ | ⟨_, _, _, _, _, k, _⟩ | ⟨_, _, _, _, _, _, _, k, _⟩ | ⟨_, _, _, _, _, k, _⟩ | ⟨_, _, _, _, k, _⟩ | h | ⟨_, _, _, _, _, _, _, _, _, k, _⟩
  · rw [k] at hk
    have := (nI_eq (a := n) (b := 8) (by omega) (by decide)).mp hk
    omega
  · rw [k] at hk; exact absurd hk (by decide)
  · rw [k] at hk; exact absurd hk (by decide)
  · rw [k] at hk; exact absurd hk (by decide)
  · rw [k] at hk; exact absurd hk (by decide)
  · rw [k] at hk; exact absurd hk (by decide)
  · rw [k] at hk; exact absurd hk (by decide)
  · exact h
  · rw [k] at hk; exact absurd hk (by decide)
theorem row_9 (hS : ∀ n, n < N → rowOk κ α β γ E n) (hN : N < 2 ^ 31) (hE : E ≤ 16) (hn : n < N) (hk : κ n = 9) : 3 ≤ n ∧ ∃ x y z, 2 ≤ x ∧ x < n ∧ y < n ∧ z < n ∧ ¬ y = z ∧ κ n = 9 ∧ α n = nI x ∧ β n = nI y ∧ γ n = nI z ∧ wd κ β x = false ∧ wd κ β y = wd κ β z ∧ cd κ α β γ n = cC (cd κ α β γ x) (cd κ α β γ y) (cd κ α β γ z) := by
  rcases cd_row hS hN hE hn with ⟨h0, k, _⟩ | ⟨_, _, _, k, _⟩ | ⟨_, _, _, k, _⟩ | ⟨_, _, _, _, _, k, _⟩ | ⟨_, _, _, _, _, _, _, k, _⟩ | ⟨_, _, _, _, _, k, _⟩ | ⟨_, _, _, _, k, _⟩ | ⟨_, _, _, _, _, _, k, _⟩ | h
  · rw [k] at hk
    have := (nI_eq (a := n) (b := 9) (by omega) (by decide)).mp hk
    omega
  · rw [k] at hk; exact absurd hk (by decide)
  · rw [k] at hk; exact absurd hk (by decide)
  · rw [k] at hk; exact absurd hk (by decide)
  · rw [k] at hk; exact absurd hk (by decide)
  · rw [k] at hk; exact absurd hk (by decide)
  · rw [k] at hk; exact absurd hk (by decide)
  · rw [k] at hk; exact absurd hk (by decide)
  · exact h
end ROWS
section INJ
variable {κ α β γ : Nat → Int32} {E N : Nat}
theorem rowOk_bc {n : Nat} (h : rowOk κ α β γ E n) : (κ n = 3 ∨ κ n = 4 ∨ n < 3) → β n = -1 ∧ γ n = -1 := by
  intro hk
  rcases h with ⟨_, _, _, h3, h4⟩ | ⟨h0, h | h | h | h | h | h⟩
  · exact ⟨h3, h4⟩
  · exact ⟨h.2.2.1, h.2.2.2⟩
  all_goals
    exfalso
    have k := h.1
    rcases hk with q | q | q
    · rw [k] at q; exact absurd q (by decide)
    · rw [k] at q; exact absurd q (by decide)
    · omega
theorem cd_inj (hSt : Store κ α β γ E N) (hN : N < 2 ^ 31) (hE : E ≤ 16) : ∀ n m, n < N → m < N → cd κ α β γ n = cd κ α β γ m → n = m := by
  have hS := hSt.2.1
  have hu := hSt.2.2
  intro n
  induction n using Nat.strongRecOn with
  | ind n ih =>
    intro m hn hm e
    obtain ⟨kn, -, kn3, kn3'⟩ := cd_kind hS hN hE hn
    obtain ⟨km, -, km3, km3'⟩ := cd_kind hS hN hE hm
    have kk : κ n = κ m := by rw [kn, km, e]
    have c3 : n < 3 → n = m := fun q => by
      have h1 := kn3 q
      rw [e] at h1
      by_cases z : m < 3
      · rw [km3 z] at h1; exact h1.symm
      · have := km3' (by omega); omega
    rcases cd_row hS hN hE hn with ⟨h0, -⟩ | ⟨h0, a, ha, k, ea, en⟩ | ⟨h0, a, ha, k, ea, en⟩ | ⟨h0, x, g, hx, hg, k, ex, ey, eg, _, en⟩ | ⟨h0, x, y, g, hx, hy, hg, k, ex, ey, eg, _, _, en⟩ | ⟨h0, x, y, hx, hy, k, ex, ey, ez, _, _, en⟩ | ⟨h0, x, _, hx, k, ex, ey, ez, _, _, en⟩ | ⟨h0, x, y, _, hx, hy, k, ex, ey, ez, _, _, en⟩ | ⟨h0, x, y, z, _, hx, hy, hz, _, k, ex, ey, ez, _, _, en⟩
    · exact c3 h0
    · obtain ⟨_, b, hb, k', eb, em⟩ := row_3 hS hN hE hm (kk.symm.trans k)
      rw [en, em] at e
      have q := (pr_inj e).2
      obtain ⟨b1, b2⟩ := rowOk_bc (hS n hn) (Or.inl k)
      obtain ⟨b3, b4⟩ := rowOk_bc (hS m hm) (Or.inl k')
      exact hu n m hn hm kk (by rw [ea, eb, q]) (b1.trans b3.symm) (b2.trans b4.symm)
    · obtain ⟨_, b, hb, k', eb, em⟩ := row_4 hS hN hE hm (kk.symm.trans k)
      rw [en, em] at e
      have q := (pr_inj e).2
      obtain ⟨b1, b2⟩ := rowOk_bc (hS n hn) (Or.inr (Or.inl k))
      obtain ⟨b3, b4⟩ := rowOk_bc (hS m hm) (Or.inr (Or.inl k'))
      exact hu n m hn hm kk (by rw [ea, eb, q]) (b1.trans b3.symm) (b2.trans b4.symm)
    · rcases row_5 hS hN hE hm (kk.symm.trans k) with ⟨_, x', g', hx', _, k', ex', ey', eg', _, em⟩ | ⟨_, x', y', g', hx', hy', _, k', ex', ey', eg', _, _, em⟩
      · rw [en, em] at e
        obtain ⟨q1, q2⟩ := pr_inj (pr_inj e).2
        obtain ⟨q3, q4⟩ := pr_inj q2
        have := ih x hx x' (by omega) (by omega) q1
        subst this; subst q4
        exact hu n m hn hm kk (ex.trans ex'.symm) (ey.trans ey'.symm) (eg.trans eg'.symm)
      · rw [en, em] at e
        obtain ⟨q1, q2⟩ := pr_inj (pr_inj e).2
        obtain ⟨q3, q4⟩ := pr_inj q2
        omega
    · rcases row_5 hS hN hE hm (kk.symm.trans k) with ⟨_, x', g', hx', _, k', ex', ey', eg', _, em⟩ | ⟨_, x', y', g', hx', hy', _, k', ex', ey', eg', _, _, em⟩
      · rw [en, em] at e
        obtain ⟨q1, q2⟩ := pr_inj (pr_inj e).2
        obtain ⟨q3, q4⟩ := pr_inj q2
        omega
      · rw [en, em] at e
        obtain ⟨q1, q2⟩ := pr_inj (pr_inj e).2
        obtain ⟨q3, q4⟩ := pr_inj q2
        have := ih x hx x' (by omega) (by omega) q1
        have h2 := ih y hy y' (by omega) (by omega) (by omega)
        subst this; subst h2; subst q4
        exact hu n m hn hm kk (ex.trans ex'.symm) (ey.trans ey'.symm) (eg.trans eg'.symm)
    · obtain ⟨_, x', y', hx', hy', k', ex', ey', ez', _, _, em⟩ := row_6 hS hN hE hm (kk.symm.trans k)
      rw [en, em] at e
      obtain ⟨q1, q2⟩ := pr_inj (pr_inj e).2
      rcases mm_inj q1 q2 with ⟨z1, z2⟩ | ⟨z1, z2⟩
      · have h1 := ih x (by omega) x' (by omega) (by omega) z1
        have h2 := ih y hy y' (by omega) (by omega) z2
        subst h1; subst h2
        exact hu n m hn hm kk (ex.trans ex'.symm) (ey.trans ey'.symm) (ez.trans ez'.symm)
      · have h1 := ih x (by omega) y' (by omega) (by omega) z1
        have h2 := ih y hy x' (by omega) (by omega) z2
        omega
    · obtain ⟨_, x', _, hx', k', ex', ey', ez', _, _, em⟩ := row_7 hS hN hE hm (kk.symm.trans k)
      rw [en, em] at e
      have h1 := ih x (by omega) x' (by omega) (by omega) (pr_inj e).2
      subst h1
      exact hu n m hn hm kk (ex.trans ex'.symm) (ey.trans ey'.symm) (ez.trans ez'.symm)
    · obtain ⟨_, x', y', _, hx', hy', k', ex', ey', ez', _, _, em⟩ := row_8 hS hN hE hm (kk.symm.trans k)
      rw [en, em] at e
      obtain ⟨q1, q2⟩ := pr_inj (pr_inj e).2
      rcases mm_inj q1 q2 with ⟨z1, z2⟩ | ⟨z1, z2⟩
      · have h1 := ih x (by omega) x' (by omega) (by omega) z1
        have h2 := ih y hy y' (by omega) (by omega) z2
        subst h1; subst h2
        exact hu n m hn hm kk (ex.trans ex'.symm) (ey.trans ey'.symm) (ez.trans ez'.symm)
      · have h1 := ih x (by omega) y' (by omega) (by omega) z1
        have h2 := ih y hy x' (by omega) (by omega) z2
        omega
    · obtain ⟨_, x', y', z', _, hx', hy', hz', _, k', ex', ey', ez', _, _, em⟩ := row_9 hS hN hE hm (kk.symm.trans k)
      rw [en, em] at e
      obtain ⟨q1, q2⟩ := pr_inj (pr_inj e).2
      obtain ⟨q3, q4⟩ := pr_inj q2
      have h1 := ih x hx x' (by omega) (by omega) q1
      have h2 := ih y hy y' (by omega) (by omega) q3
      have h3 := ih z hz z' (by omega) (by omega) q4
      subst h1; subst h2; subst h3
      exact hu n m hn hm kk (ex.trans ex'.symm) (ey.trans ey'.symm) (ez.trans ez'.symm)
/-- codes of the first nodes do not change when nodes come -/
theorem cd_congr {κ' α' β' γ' : Nat → Int32} (hS : ∀ n, n < N → rowOk κ α β γ E n) (hN : N < 2 ^ 31) (ag : ∀ m, m < N → κ' m = κ m ∧ α' m = α m ∧ β' m = β m ∧ γ' m = γ m) : ∀ n, n < N → cd κ' α' β' γ' n = cd κ α β γ n := by
  have key : ∀ n, n < N → ∀ f, n < f → cdF κ' α' β' γ' f n = cdF κ α β γ f n := by
    intro n
    induction n using Nat.strongRecOn with
    | ind n ih =>
      intro hn f hf
      obtain ⟨f, rfl⟩ : ∃ q, f = q + 1 := ⟨f - 1, by omega⟩
      obtain ⟨g1, g2, g3, g4⟩ := ag n hn
      have key : ∀ q, q < n → cdF κ' α' β' γ' f (tN (nI q)) = cdF κ α β γ f (tN (nI q)) := by
        intro q hq
        show cdF κ' α' β' γ' f (nI q).toNatClampNeg = cdF κ α β γ f (nI q).toNatClampNeg
        rw [nI_clamp (by omega)]
        exact ih q hq (by omega) f (by omega)
      rw [cdF, cdF, g1, g2, g3, g4]
      rcases hS n hn with ⟨z0, z1, z2, -⟩ | ⟨z0, z | z | z | z | z | z⟩
      · have e : ∀ k : Nat, 5 ≤ k → k < 10 → ¬ κ n = nI k := fun k h1 h2 q => by
          rw [z1] at q
          have := (nI_eq (by omega) (by omega)).mp q
          omega
        have e5 : ¬ κ n = 5 := e 5 (by decide) (by decide)
        have e6 : ¬ κ n = 6 := e 6 (by decide) (by decide)
        have e7 : ¬ κ n = 7 := e 7 (by decide) (by decide)
        have e8 : ¬ κ n = 8 := e 8 (by decide) (by decide)
        have e9 : ¬ κ n = 9 := e 9 (by decide) (by decide)
        simp only [if_neg e5, if_neg e6, if_neg e7, if_neg e8, if_neg e9]
      · rcases z.1 with q | q <;> simp (decide := true) only [if_true, if_false, q]
      · obtain ⟨k, ⟨x, hx, ex, -⟩, hb, -⟩ := z
        simp only [k, ex, if_true]
        rw [key x hx]
        rcases hb with hb | ⟨y, hy, ey, -⟩
        · rw [hb, if_pos (show (-1 : Int32) < 0 by decide), if_pos (show (-1 : Int32) < 0 by decide)]
        · rw [ey, key y hy]
      · obtain ⟨k, ⟨x, y, hx, hy, ex, ey, -⟩, -⟩ := z
        simp (decide := true) only [if_true, if_false, k, ex, ey, key x (by omega), key y hy]
      · obtain ⟨k, ⟨x, -, hx, ex, -⟩, -⟩ := z
        simp (decide := true) only [if_true, if_false, k, ex, key x hx]
      · obtain ⟨k, ⟨x, y, -, hx, hy, ex, ey, -⟩, -⟩ := z
        simp (decide := true) only [if_true, if_false, k, ex, ey, key x (by omega), key y hy]
      · obtain ⟨k, x, y, z, -, hx, hy, hz, -, ex, ey, ez, -⟩ := z
        simp (decide := true) only [if_true, if_false, k, ex, ey, ez, key x hx, key y hy, key z hz]
  intro n hn
  exact key n hn (n + 1) (by omega)
end INJ
