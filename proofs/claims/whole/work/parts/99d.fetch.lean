/-! Is FETCH in it? -/
def hfF (κ α β γ : Nat → Int32) : Nat → Nat → Bool
  | 0, _ => false
  | f + 1, m => decide (κ m = 2) || (!decide (κ m ≤ 4) && ((!decide (α m < 0) && hfF κ α β γ f (α m).toNatClampNeg) || (!decide (β m < 0) && hfF κ α β γ f (β m).toNatClampNeg) || (decide (κ m = 9) && (!decide (γ m < 0) && hfF κ α β γ f (γ m).toNatClampNeg))))
def hf (κ α β γ : Nat → Int32) (m : Nat) : Bool := hfF κ α β γ (m + 1) m
/-- the parts that count of a node that is made of some -/
def isPt (κ α β γ : Nat → Int32) (m q : Nat) : Prop := ¬ κ m ≤ 4 ∧ (α m = nI q ∨ β m = nI q ∨ (κ m = 9 ∧ γ m = nI q))
theorem rowOk_parts {κ α β γ : Nat → Int32} {E m : Nat} (h : rowOk κ α β γ E m) (hm : m < 2 ^ 31) (hk : ¬ κ m ≤ 4) : (α m < 0 ∨ ∃ q, q < m ∧ α m = nI q) ∧ (β m < 0 ∨ ∃ q, q < m ∧ β m = nI q) ∧ (κ m = 9 → γ m < 0 ∨ ∃ q, q < m ∧ γ m = nI q) := by
  rcases h with ⟨z0, z1, -⟩ | ⟨z0, z | z | z | z | z | z⟩
  · exfalso
    apply hk
    rw [z1]
    exact nI_le (b := 4) (by omega) (by decide)
  · exfalso
    apply hk
    rcases z.1 with q | q <;> rw [q] <;> decide
  · obtain ⟨k, ⟨x, hx, e, -⟩, z, -⟩ := z
    refine ⟨Or.inr ⟨x, hx, e⟩, ?_, fun q => by rw [k] at q; exact absurd q (by decide)⟩
    rcases z with z | ⟨y, hy, e2, -⟩
    · exact Or.inl (by rw [z]; decide)
    · exact Or.inr ⟨y, hy, e2⟩
  · obtain ⟨k, ⟨x, y, hx, hy, e, e2, -⟩, -⟩ := z
    exact ⟨Or.inr ⟨x, by omega, e⟩, Or.inr ⟨y, hy, e2⟩, fun q => by rw [k] at q; exact absurd q (by decide)⟩
  · obtain ⟨k, ⟨x, -, hx, e, -⟩, e2, -⟩ := z
    exact ⟨Or.inr ⟨x, hx, e⟩, Or.inl (by rw [e2]; decide), fun q => by rw [k] at q; exact absurd q (by decide)⟩
  · obtain ⟨k, ⟨x, y, -, hx, hy, e, e2, -⟩, -⟩ := z
    exact ⟨Or.inr ⟨x, by omega, e⟩, Or.inr ⟨y, hy, e2⟩, fun q => by rw [k] at q; exact absurd q (by decide)⟩
  · obtain ⟨k, x, y, z, -, hx, hy, hz, -, e, e2, e3, -⟩ := z
    exact ⟨Or.inr ⟨x, hx, e⟩, Or.inr ⟨y, hy, e2⟩, fun _ => Or.inr ⟨z, hz, e3⟩⟩
theorem part_lt {κ α β γ : Nat → Int32} {E m q : Nat} (h : rowOk κ α β γ E m) (hm : m < 2 ^ 31) (hq : q < 2 ^ 31) (hp : isPt κ α β γ m q) : q < m := by
  obtain ⟨hk, hp⟩ := hp
  obtain ⟨p1, p2, p3⟩ := rowOk_parts h hm hk
  have key : ∀ x : Int32, x = nI q → (x < 0 ∨ ∃ q, q < m ∧ x = nI q) → q < m := by
    intro x e hx
    rcases hx with hx | ⟨y, hy, e2⟩
    · rw [e] at hx; exact absurd hx (nI_pos hq)
    · have := (nI_eq hq (by omega)).mp (e.symm.trans e2)
      omega
  rcases hp with e | e | ⟨k9, e⟩
  · exact key _ e p1
  · exact key _ e p2
  · exact key _ e (p3 k9)
theorem hfF_any {κ α β γ : Nat → Int32} {E N : Nat} (hS : ∀ n, n < N → rowOk κ α β γ E n) (hN : N < 2 ^ 31) : ∀ m, m < N → ∀ f f', m < f → m < f' → hfF κ α β γ f m = hfF κ α β γ f' m := by
  intro m
  induction m using Nat.strongRecOn with
  | ind m ih =>
    intro hm f f' hf1 hf2
    obtain ⟨f, rfl⟩ : ∃ q, f = q + 1 := ⟨f - 1, by omega⟩
    obtain ⟨f', rfl⟩ : ∃ q, f' = q + 1 := ⟨f' - 1, by omega⟩
    rw [hfF, hfF]
    by_cases hk : κ m ≤ 4
    · rw [decide_eq_true hk]
      rfl
    · obtain ⟨p1, p2, p3⟩ := rowOk_parts (hS m hm) (by omega) hk
      have key : ∀ x : Int32, (x < 0 ∨ ∃ q, q < m ∧ x = nI q) → (!decide (x < 0) && hfF κ α β γ f x.toNatClampNeg) = (!decide (x < 0) && hfF κ α β γ f' x.toNatClampNeg) := by
        intro x hx
        rcases hx with hx | ⟨q, hq, e⟩
        · rw [decide_eq_true hx]; rfl
        · rw [e, nI_clamp (by omega), ih q hq (by omega) f f' (by omega) (by omega)]
      rw [key _ p1, key _ p2]
      by_cases k9 : κ m = 9
      · rw [key _ (p3 k9)]
      · rw [decide_eq_false k9]
        rfl
/-- FETCH is in a node made of parts just if it is in a part -/
theorem hf_iff {κ α β γ : Nat → Int32} {E N m : Nat} (hS : ∀ n, n < N → rowOk κ α β γ E n) (hN : N < 2 ^ 31) (hm : m < N) : hf κ α β γ m = true ↔ κ m = 2 ∨ ∃ q, q < m ∧ isPt κ α β γ m q ∧ hf κ α β γ q = true := by
  have e : ∀ q, q < m → hfF κ α β γ m q = hf κ α β γ q := fun q hq => hfF_any hS hN q (by omega) m (q + 1) hq (by omega)
  unfold hf
  rw [hfF]
  by_cases hk : κ m ≤ 4
  · rw [decide_eq_true hk]
    constructor
    · intro h
      rw [Bool.or_eq_true] at h
      rcases h with h | h
      · exact Or.inl (of_decide_eq_true h)
      · cases h
    · rintro (h | ⟨q, -, hp, -⟩)
      · rw [decide_eq_true h]; rfl
      · exact absurd hk hp.1
  · obtain ⟨p1, p2, p3⟩ := rowOk_parts (hS m hm) (by omega) hk
    have key : ∀ x : Int32, (x < 0 ∨ ∃ q, q < m ∧ x = nI q) → ((!decide (x < 0) && hfF κ α β γ m x.toNatClampNeg) = true ↔ ∃ q, q < m ∧ x = nI q ∧ hfF κ α β γ (q + 1) q = true) := by
      intro x hx
      rcases hx with hx | ⟨q, hq, ex⟩
      · rw [decide_eq_true hx]
        refine ⟨fun h => (by cases h), ?_⟩
        rintro ⟨q, hq, ex, -⟩
        rw [ex] at hx
        exact absurd hx (nI_pos (by omega))
      · rw [ex, nI_clamp (by omega), decide_eq_false (nI_pos (by omega)), e q hq]
        constructor
        · intro h
          exact ⟨q, hq, rfl, h⟩
        · rintro ⟨q', hq', ex', h'⟩
          have := (nI_eq (by omega) (by omega)).mp ex'
          subst this
          exact h'
    have key3 : (decide (κ m = 9) && (!decide (γ m < 0) && hfF κ α β γ m (γ m).toNatClampNeg)) = true ↔ ∃ q, q < m ∧ (κ m = 9 ∧ γ m = nI q) ∧ hfF κ α β γ (q + 1) q = true := by
      by_cases k9 : κ m = 9
      · rw [decide_eq_true k9, Bool.true_and, key _ (p3 k9)]
        constructor
        · rintro ⟨q, h1, h2, h3⟩; exact ⟨q, h1, ⟨k9, h2⟩, h3⟩
        · rintro ⟨q, h1, ⟨-, h2⟩, h3⟩; exact ⟨q, h1, h2, h3⟩
      · rw [decide_eq_false k9]
        refine ⟨fun h => (by cases h), ?_⟩
        rintro ⟨q, -, ⟨h, -⟩, -⟩
        exact absurd h k9
    rw [decide_eq_false hk, Bool.not_false, Bool.true_and, Bool.or_eq_true, Bool.or_eq_true, Bool.or_eq_true, key _ p1, key _ p2, key3, decide_eq_true_iff]
    constructor
    · rintro (h | ((⟨q, h1, h2, h3⟩ | ⟨q, h1, h2, h3⟩) | ⟨q, h1, h2, h3⟩))
      · exact Or.inl h
      · exact Or.inr ⟨q, h1, ⟨hk, Or.inl h2⟩, h3⟩
      · exact Or.inr ⟨q, h1, ⟨hk, Or.inr (Or.inl h2)⟩, h3⟩
      · exact Or.inr ⟨q, h1, ⟨hk, Or.inr (Or.inr h2)⟩, h3⟩
    · rintro (h | ⟨q, h1, ⟨-, h2 | h2 | h2⟩, h3⟩)
      · exact Or.inl h
      · exact Or.inr (Or.inl (Or.inl ⟨q, h1, h2, h3⟩))
      · exact Or.inr (Or.inl (Or.inr ⟨q, h1, h2, h3⟩))
      · exact Or.inr (Or.inr ⟨q, h1, h2, h3⟩)
/-- what a step of the marking marks -/
theorem mpStep_iff {κ α β γ : Nat → Int32} {m q : Nat} {D : Nat → Int32} (hq : q < 2 ^ 31) (hc : ∀ x : Int32, ¬ x < 0 → x.toNatClampNeg = q → x = nI q) : ¬ mpStep κ α β γ m D q = 0 ↔ ¬ D q = 0 ∨ (¬ D m = 0 ∧ isPt κ α β γ m q) := by
  have mk : ∀ (G : Nat → Int32) (x : Int32), ¬ mkd G x q = 0 ↔ ¬ G q = 0 ∨ x = nI q := by
    intro G x
    unfold mkd
    by_cases hx : ¬ x < 0 ∧ q = x.toNatClampNeg
    · rw [if_pos hx]
      exact ⟨fun _ => Or.inr (hc x hx.1 hx.2.symm), fun _ => by decide⟩
    · rw [if_neg hx]
      refine ⟨Or.inl, ?_⟩
      rintro (h | h)
      · exact h
      · exact absurd ⟨by rw [h]; exact nI_pos hq, by rw [h, nI_clamp hq]⟩ hx
  unfold mpStep isPt
  by_cases d0 : D m = 0
  · rw [if_pos d0]
    exact ⟨Or.inl, fun h => h.elim id (fun z => absurd d0 z.1)⟩
  · rw [if_neg d0]
    by_cases k4 : κ m ≤ 4
    · rw [if_pos k4]
      exact ⟨Or.inl, fun h => h.elim id (fun z => absurd k4 z.2.1)⟩
    · rw [if_neg k4]
      by_cases k9 : κ m = 9
      · rw [if_pos k9, mk, mk, mk]
        constructor
        · rintro (((h | h) | h) | h)
          · exact Or.inl h
          · exact Or.inr ⟨d0, k4, Or.inl h⟩
          · exact Or.inr ⟨d0, k4, Or.inr (Or.inl h)⟩
          · exact Or.inr ⟨d0, k4, Or.inr (Or.inr ⟨k9, h⟩)⟩
        · rintro (h | ⟨-, -, h | h | ⟨-, h⟩⟩)
          · exact Or.inl (Or.inl (Or.inl h))
          · exact Or.inl (Or.inl (Or.inr h))
          · exact Or.inl (Or.inr h)
          · exact Or.inr h
      · rw [if_neg k9, mk, mk]
        constructor
        · rintro ((h | h) | h)
          · exact Or.inl h
          · exact Or.inr ⟨d0, k4, Or.inl h⟩
          · exact Or.inr ⟨d0, k4, Or.inr (Or.inl h)⟩
        · rintro (h | ⟨-, -, h | h | ⟨h, -⟩⟩)
          · exact Or.inl (Or.inl h)
          · exact Or.inl (Or.inr h)
          · exact Or.inr h
          · exact absurd h k9
theorem clamp_nI {x : Int32} {q : Nat} (h : ¬ x < 0) (e : x.toNatClampNeg = q) : x = nI q := by
  obtain ⟨m, hm, rfl⟩ := nI_of h
  rw [nI_clamp hm] at e
  rw [e]
/-- the marking marks FETCH just if it is in a marked node -/
theorem mpAll_fetch {κ α β γ : Nat → Int32} {E N : Nat} (hS : ∀ n, n < N → rowOk κ α β γ E n) (hN : N < 2 ^ 31) : ∀ (m : Nat) (D : Nat → Int32), 3 ≤ m → m ≤ N → (¬ mpAll κ α β γ m D 2 = 0 ↔ ∃ q, q < m ∧ ¬ D q = 0 ∧ hf κ α β γ q = true) := by
  intro m
  induction m with
  | zero => intro D h; omega
  | succ m ih =>
    intro D h3 hm
    unfold mpAll
    by_cases h2 : m ≤ 2
    · have e : m = 2 := by omega
      subst e
      rw [if_pos h2]
      have low : ∀ q, q < 3 → (hf κ α β γ q = true ↔ q = 2) := by
        intro q hq
        rcases hS q (by omega) with ⟨-, z, -⟩ | ⟨z, -⟩
        · have hk : κ q ≤ 4 := by rw [z]; exact nI_le (b := 4) (by omega) (by decide)
          rw [hf_iff hS hN (by omega), z]
          constructor
          · rintro (h | ⟨p, -, hp, -⟩)
            · exact (nI_eq (a := q) (b := 2) (by omega) (by decide)).mp h
            · exact absurd hk hp.1
          · intro h; rw [h]; exact Or.inl rfl
        · omega
      constructor
      · intro h; exact ⟨2, by decide, h, (low 2 (by decide)).mpr rfl⟩
      · rintro ⟨q, hq, hd, hh⟩
        rw [(low q hq).mp hh] at hd
        exact hd
    · rw [if_neg h2, ih _ (by omega) (by omega)]
      have st : ∀ q, q < 2 ^ 31 → (¬ mpStep κ α β γ m D q = 0 ↔ ¬ D q = 0 ∨ (¬ D m = 0 ∧ isPt κ α β γ m q)) := fun q hq => mpStep_iff hq (fun x h1 h2 => clamp_nI h1 h2)
      have hmm := hf_iff hS hN (show m < N by omega)
      constructor
      · rintro ⟨q, hq, hd, hh⟩
        rcases (st q (by omega)).mp hd with hd | ⟨hd, hp⟩
        · exact ⟨q, by omega, hd, hh⟩
        · exact ⟨m, by omega, hd, hmm.mpr (Or.inr ⟨q, hq, hp, hh⟩)⟩
      · rintro ⟨q, hq, hd, hh⟩
        by_cases e : q = m
        · subst e
          rcases hmm.mp hh with k2 | ⟨p, hp, hpp, hph⟩
          · exfalso
            rcases hS q (by omega) with ⟨z0, -⟩ | ⟨-, z | z | z | z | z | z⟩
            · omega
            · rw [k2] at z; rcases z.1 with w | w <;> exact absurd w (by decide)
            · rw [k2] at z; exact absurd z.1 (by decide)
            · rw [k2] at z; exact absurd z.1 (by decide)
            · rw [k2] at z; exact absurd z.1 (by decide)
            · rw [k2] at z; exact absurd z.1 (by decide)
            · rw [k2] at z; exact absurd z.1 (by decide)
          · exact ⟨p, hp, (st p (by omega)).mpr (Or.inr ⟨hd, hpp⟩), hph⟩
        · exact ⟨q, by omega, (st q (by omega)).mpr (Or.inl hd), hh⟩
