section FORMS
theorem part_leaf {c p : Nat} (h : p1 c ≤ 4) : ¬ cPart c p := by unfold cPart; omega
theorem part_A {g a b p : Nat} : cPart (cA g a b) p ↔ p = a ∨ b = p + 1 := by
  unfold cPart q1 q2 q21 q22
  simp (decide := true) only [p1_pr, p2_pr, true_and, false_and, or_false, false_or]
  try omega
theorem part_E {a b p : Nat} : cPart (cE a b) p ↔ p = a ∨ p = b := by
  unfold cPart q1 q2 q21 q22
  simp (decide := true) only [p1_pr, p2_pr, true_and, false_and, or_false, false_or]
  try omega
theorem part_N {a p : Nat} : cPart (cN a) p ↔ p = a := by
  unfold cPart q1 q2 q21 q22
  simp (decide := true) only [p1_pr, p2_pr, true_and, false_and, or_false, false_or]
  try omega
theorem part_B {a b p : Nat} : cPart (cB a b) p ↔ p = a ∨ p = b := by
  unfold cPart q1 q2 q21 q22
  simp (decide := true) only [p1_pr, p2_pr, true_and, false_and, or_false, false_or]
  try omega
theorem part_C {c a b p : Nat} : cPart (cC c a b) p ↔ p = c ∨ p = a ∨ p = b := by
  unfold cPart q1 q2 q21 q22
  simp (decide := true) only [p1_pr, p2_pr, true_and, false_and, or_false, false_or]
  try omega
theorem wc_pr {k x : Nat} (h : ¬ k = 9) : wc (pr k x) = (decide (k = 3) || decide (k = 5)) := by
  rw [wc_eq, p1_pr, if_neg h]
theorem wc_C {c a b : Nat} : wc (cC c a b) = wc a := by
  rw [wc_eq, p1_pr, if_pos rfl]
  unfold q21
  rw [p2_pr, p2_pr, p1_pr]
theorem okc_low {k x : Nat} (h : k ≤ 4) : okc (pr k x) := by
  unfold okc
  rw [p1_pr]
  exact ⟨by omega, fun q => by omega, fun q => by omega, fun q => by omega, fun q => by omega, fun q => by omega⟩
theorem okc_A {g a b : Nat} (h1 : wc a = true) (h2 : b = 0 ∨ wc (b - 1) = true) : okc (cA g a b) := by
  unfold okc q1 q2 q21 q22
  simp only [p1_pr, p2_pr]
  exact ⟨by omega, fun _ => ⟨h1, h2⟩, fun q => by omega, fun q => by omega, fun q => by omega, fun q => by omega⟩
theorem okc_E {a b : Nat} (h1 : wc a = true) (h2 : wc b = true) : okc (cE a b) := by
  unfold okc q1 q2 q21 q22
  simp only [p1_pr, p2_pr]
  refine ⟨by omega, fun q => by omega, fun _ => ?_, fun q => by omega, fun q => by omega, fun q => by omega⟩
  rcases Nat.le_total a b with q | q
  · rw [Nat.min_eq_left q, Nat.max_eq_right q]; exact ⟨h1, h2⟩
  · rw [Nat.min_eq_right q, Nat.max_eq_left q]; exact ⟨h2, h1⟩
theorem okc_N {a : Nat} (h1 : wc a = false) : okc (cN a) := by
  unfold okc q1 q2 q21 q22
  simp only [p1_pr, p2_pr]
  exact ⟨by omega, fun q => by omega, fun q => by omega, fun _ => h1, fun q => by omega, fun q => by omega⟩
theorem okc_B {a b : Nat} (h1 : wc a = false) (h2 : wc b = false) : okc (cB a b) := by
  unfold okc q1 q2 q21 q22
  simp only [p1_pr, p2_pr]
  refine ⟨by omega, fun q => by omega, fun q => by omega, fun q => by omega, fun _ => ?_, fun q => by omega⟩
  rcases Nat.le_total a b with q | q
  · rw [Nat.min_eq_left q, Nat.max_eq_right q]; exact ⟨h1, h2⟩
  · rw [Nat.min_eq_right q, Nat.max_eq_left q]; exact ⟨h2, h1⟩
theorem okc_C {c a b : Nat} (h1 : wc c = false) (h2 : wc a = wc b) : okc (cC c a b) := by
  unfold okc q1 q2 q21 q22
  simp only [p1_pr, p2_pr]
  exact ⟨by omega, fun q => by omega, fun q => by omega, fun q => by omega, fun q => by omega, fun _ => ⟨h1, h2⟩⟩
theorem mm_inj {a b a' b' : Nat} (h1 : min a b = min a' b') (h2 : max a b = max a' b') : (a = a' ∧ b = b') ∨ (a = b' ∧ b = a') := by omega
end FORMS
section CD2
variable {κ α β γ : Nat → Int32} {E N : Nat}
theorem n3 : (3 : Int32) = nI 3 := rfl
theorem n4 : (4 : Int32) = nI 4 := rfl
theorem n5 : (5 : Int32) = nI 5 := rfl
theorem n6 : (6 : Int32) = nI 6 := rfl
theorem n7 : (7 : Int32) = nI 7 := rfl
theorem n8 : (8 : Int32) = nI 8 := rfl
theorem n9 : (9 : Int32) = nI 9 := rfl
/-- a node's kind is its code's -/
theorem cd_kind (hS : ∀ n, n < N → rowOk κ α β γ E n) (hN : N < 2 ^ 31) (hE : E ≤ 16) {n : Nat} (hn : n < N) : κ n = nI (p1 (cd κ α β γ n)) ∧ p1 (cd κ α β γ n) ≤ 9 ∧ (n < 3 → p1 (cd κ α β γ n) = n) ∧ (3 ≤ n → 3 ≤ p1 (cd κ α β γ n)) := by
  rcases cd_row hS hN hE hn with ⟨h0, k, -, e⟩ | ⟨h0, _, _, k, _, e⟩ | ⟨h0, _, _, k, _, e⟩ | ⟨h0, _, _, _, _, k, _, _, _, _, e⟩ | ⟨h0, _, _, _, _, _, _, k, _, _, _, _, _, e⟩ | ⟨h0, _, _, _, _, k, _, _, _, _, _, e⟩ | ⟨h0, _, _, _, k, _, _, _, _, _, e⟩ | ⟨h0, _, _, _, _, _, k, _, _, _, _, _, e⟩ | ⟨h0, _, _, _, _, _, _, _, _, k, _, _, _, _, _, e⟩ <;> rw [e, p1_pr, k] <;> exact ⟨rfl, by omega, by omega, by omega⟩
theorem cd_wc (hS : ∀ n, n < N → rowOk κ α β γ E n) (hN : N < 2 ^ 31) (hE : E ≤ 16) : ∀ n, n < N → wc (cd κ α β γ n) = wd κ β n := by
  intro n
  induction n using Nat.strongRecOn with
  | ind n ih =>
    intro hn
    have plain : ∀ k : Nat, k < 9 → κ n = nI k → wd κ β n = (decide (k = 3) || decide (k = 5)) := by
      intro k h9 hk
      have n9 : ¬ κ n = 9 := fun q => by
        rw [hk] at q
        have := (nI_eq (a := k) (b := 9) (by omega) (by decide)).mp q
        omega
      rw [wd_n9 n9, hk]
      have e3 : (nI k = 3) ↔ (k = 3) := nI_eq (a := k) (b := 3) (by omega) (by decide)
      have e5 : (nI k = 5) ↔ (k = 5) := nI_eq (a := k) (b := 5) (by omega) (by decide)
      rw [decide_eq_decide.mpr e3, decide_eq_decide.mpr e5]
    rcases cd_row hS hN hE hn with ⟨h0, k, -, e⟩ | ⟨h0, _, _, k, _, e⟩ | ⟨h0, _, _, k, _, e⟩ | ⟨h0, _, _, _, _, k, _, _, _, _, e⟩ | ⟨h0, _, _, _, _, _, _, k, _, _, _, _, _, e⟩ | ⟨h0, _, _, _, _, k, _, _, _, _, _, e⟩ | ⟨h0, _, _, _, k, _, _, _, _, _, e⟩ | ⟨h0, _, _, _, _, _, k, _, _, _, _, _, e⟩ | ⟨h0, x, y, z, _, hx, hy, hz, _, k, ex, ey, ez, _, _, e⟩
    · rw [e, wc_pr (by omega), plain n (by omega) k]
    · rw [e, wc_pr (by decide), plain 3 (by decide) k]
    · rw [e, wc_pr (by decide), plain 4 (by decide) k]
    · rw [e, wc_pr (by decide), plain 5 (by decide) k]
    · rw [e, wc_pr (by decide), plain 5 (by decide) k]
    · rw [e, wc_pr (by decide), plain 6 (by decide) k]
    · rw [e, wc_pr (by decide), plain 7 (by decide) k]
    · rw [e, wc_pr (by decide), plain 8 (by decide) k]
    · rw [e, wc_C, ih y hy (by omega), wd_9 hS hN hn k ey hy]
theorem cd_ok (hS : ∀ n, n < N → rowOk κ α β γ E n) (hN : N < 2 ^ 31) (hE : E ≤ 16) {n : Nat} (hn : n < N) : okc (cd κ α β γ n) := by
  have w := cd_wc hS hN hE
  rcases cd_row hS hN hE hn with ⟨h0, k, -, e⟩ | ⟨h0, _, _, k, _, e⟩ | ⟨h0, _, _, k, _, e⟩ | ⟨h0, x, _, hx, _, k, _, _, _, wx, e⟩ | ⟨h0, x, y, _, hx, hy, _, k, _, _, _, wx, wy, e⟩ | ⟨h0, x, y, hx, hy, k, _, _, _, wx, wy, e⟩ | ⟨h0, x, _, hx, k, _, _, _, _, wx, e⟩ | ⟨h0, x, y, _, hx, hy, k, _, _, _, wx, wy, e⟩ | ⟨h0, x, y, z, _, hx, hy, hz, _, k, _, _, _, wx, we, e⟩
  · rw [e]; exact okc_low (by omega)
  · rw [e]; exact okc_low (by omega)
  · rw [e]; exact okc_low (by omega)
  · rw [e]; exact okc_A (by rw [w x (by omega)]; exact wx) (Or.inl rfl)
  · rw [e]; exact okc_A (by rw [w x (by omega)]; exact wx) (Or.inr (by rw [Nat.add_sub_cancel, w y (by omega)]; exact wy))
  · rw [e]; exact okc_E (by rw [w x (by omega)]; exact wx) (by rw [w y (by omega)]; exact wy)
  · rw [e]; exact okc_N (by rw [w x (by omega)]; exact wx)
  · rw [e]; exact okc_B (by rw [w x (by omega)]; exact wx) (by rw [w y (by omega)]; exact wy)
  · rw [e]; exact okc_C (by rw [w x (by omega)]; exact wx) (by rw [w y (by omega), w z (by omega)]; exact we)
/-- a node's parts are its code's -/
theorem cd_part (hS : ∀ n, n < N → rowOk κ α β γ E n) (hN : N < 2 ^ 31) (hE : E ≤ 16) {n p : Nat} (hn : n < N) : cPart (cd κ α β γ n) p ↔ ∃ m, m < n ∧ isPt κ α β γ n m ∧ cd κ α β γ m = p := by
  have low : ∀ k : Nat, k ≤ 4 → κ n = nI k → ¬ ∃ m, m < n ∧ isPt κ α β γ n m ∧ cd κ α β γ m = p := by
    rintro k h4 hk ⟨m, -, hp, -⟩
    exact hp.1 (by rw [hk]; exact nI_le (b := 4) h4 (by decide))
  have inj : ∀ {a b : Nat}, a < N → b < N → nI a = nI b → a = b := fun ha hb q => (nI_eq (by omega) (by omega)).mp q
  have neg : ∀ m, m < N → ¬ (-1 : Int32) = nI m := fun m hm q => by
    have h := nI_pos (n := m) (by omega)
    rw [← q] at h
    exact h (by decide)
  rcases cd_row hS hN hE hn with ⟨h0, k, -, e⟩ | ⟨h0, _, _, k, _, e⟩ | ⟨h0, _, _, k, _, e⟩ | ⟨h0, x, g, hx, _, k, ex, ey, _, wx, e⟩ | ⟨h0, x, y, g, hx, hy, _, k, ex, ey, _, wx, wy, e⟩ | ⟨h0, x, y, hx, hy, k, ex, ey, _, wx, wy, e⟩ | ⟨h0, x, _, hx, k, ex, ey, _, _, wx, e⟩ | ⟨h0, x, y, _, hx, hy, k, ex, ey, _, wx, wy, e⟩ | ⟨h0, x, y, z, _, hx, hy, hz, _, k, ex, ey, ez, wx, we, e⟩
  · exact ⟨fun q => absurd q (part_leaf (by rw [e, p1_pr]; omega)), fun q => absurd q (low n (by omega) k)⟩
  · exact ⟨fun q => absurd q (part_leaf (by rw [e, p1_pr]; omega)), fun q => absurd q (low 3 (by omega) k)⟩
  · exact ⟨fun q => absurd q (part_leaf (by rw [e, p1_pr]; omega)), fun q => absurd q (low 4 (by omega) k)⟩
  · rw [e, part_A]
    constructor
    · rintro (q | q)
      · exact ⟨x, hx, ⟨by rw [k]; decide, Or.inl ex⟩, q.symm⟩
      · omega
    · rintro ⟨m, hm, ⟨-, q | q | ⟨q, -⟩⟩, em⟩
      · left; rw [← em, inj (by omega) (by omega) (ex.symm.trans q)]
      · exact absurd (ey.symm.trans q) (neg m (by omega))
      · rw [k] at q; exact absurd q (by decide)
  · rw [e, part_A]
    constructor
    · rintro (q | q)
      · exact ⟨x, hx, ⟨by rw [k]; decide, Or.inl ex⟩, q.symm⟩
      · exact ⟨y, hy, ⟨by rw [k]; decide, Or.inr (Or.inl ey)⟩, by omega⟩
    · rintro ⟨m, hm, ⟨-, q | q | ⟨q, -⟩⟩, em⟩
      · left; rw [← em, inj (by omega) (by omega) (ex.symm.trans q)]
      · right; rw [← em, inj (by omega) (by omega) (ey.symm.trans q)]
      · rw [k] at q; exact absurd q (by decide)
  · rw [e, part_E]
    constructor
    · rintro (q | q)
      · exact ⟨x, by omega, ⟨by rw [k]; decide, Or.inl ex⟩, q.symm⟩
      · exact ⟨y, hy, ⟨by rw [k]; decide, Or.inr (Or.inl ey)⟩, q.symm⟩
    · rintro ⟨m, hm, ⟨-, q | q | ⟨q, -⟩⟩, em⟩
      · left; rw [← em, inj (by omega) (by omega) (ex.symm.trans q)]
      · right; rw [← em, inj (by omega) (by omega) (ey.symm.trans q)]
      · rw [k] at q; exact absurd q (by decide)
  · rw [e, part_N]
    constructor
    · intro q
      exact ⟨x, hx, ⟨by rw [k]; decide, Or.inl ex⟩, q.symm⟩
    · rintro ⟨m, hm, ⟨-, q | q | ⟨q, -⟩⟩, em⟩
      · rw [← em, inj (by omega) (by omega) (ex.symm.trans q)]
      · exact absurd (ey.symm.trans q) (neg m (by omega))
      · rw [k] at q; exact absurd q (by decide)
  · rw [e, part_B]
    constructor
    · rintro (q | q)
      · exact ⟨x, by omega, ⟨by rw [k]; decide, Or.inl ex⟩, q.symm⟩
      · exact ⟨y, hy, ⟨by rw [k]; decide, Or.inr (Or.inl ey)⟩, q.symm⟩
    · rintro ⟨m, hm, ⟨-, q | q | ⟨q, -⟩⟩, em⟩
      · left; rw [← em, inj (by omega) (by omega) (ex.symm.trans q)]
      · right; rw [← em, inj (by omega) (by omega) (ey.symm.trans q)]
      · rw [k] at q; exact absurd q (by decide)
  · rw [e, part_C]
    constructor
    · rintro (q | q | q)
      · exact ⟨x, hx, ⟨by rw [k]; decide, Or.inl ex⟩, q.symm⟩
      · exact ⟨y, hy, ⟨by rw [k]; decide, Or.inr (Or.inl ey)⟩, q.symm⟩
      · exact ⟨z, hz, ⟨by rw [k]; decide, Or.inr (Or.inr ⟨k, ez⟩)⟩, q.symm⟩
    · rintro ⟨m, hm, ⟨-, q | q | ⟨-, q⟩⟩, em⟩
      · left; rw [← em, inj (by omega) (by omega) (ex.symm.trans q)]
      · right; left; rw [← em, inj (by omega) (by omega) (ey.symm.trans q)]
      · right; right; rw [← em, inj (by omega) (by omega) (ez.symm.trans q)]
end CD2
