/-! THE NEXT GROWTH STRING -/
abbrev mxT (u : Nat → Nat) (i : Nat) : Nat := mxP tt1 u i
theorem mxT_s (u : Nat → Nat) (i : Nat) : mxT u (i + 1) = max (mxT u i) (u i + 1) := by
  show mxP tt1 u (i + 1) = _
  rw [mxP, if_pos rfl]
theorem mxT_le {u : Nat → Nat} {K : Nat} (h : rgP tt1 u K) : ∀ i, i ≤ K → mxT u i ≤ i := by
  intro i
  induction i with
  | zero => intro _; exact Nat.le_refl 0
  | succ i ih =>
    intro hi
    have h1 := ih (by omega)
    have h2 : u i ≤ mxT u i := h i (by omega) rfl
    rw [mxT_s]; omega
theorem rg_le {u : Nat → Nat} {K i : Nat} (h : rgP tt1 u K) (hi : i < K) : u i ≤ i := by
  have h1 := mxT_le h i (by omega)
  have h2 : u i ≤ mxT u i := h i hi rfl
  omega
/-- the string with place k counted up and what is behind it 0 -/
def nxt (u : Nat → Nat) (k : Nat) (i : Nat) : Nat := if i < k then u i else if i = k then u k + 1 else 0
section NXT
variable {u : Nat → Nat} {k from' to' : Nat}
theorem nxt_lo {i : Nat} (h : i < k) : nxt u k i = u i := if_pos h
theorem nxt_k : nxt u k k = u k + 1 := by unfold nxt; rw [if_neg (Nat.lt_irrefl k), if_pos rfl]
theorem nxt_hi {i : Nat} (h : k < i) : nxt u k i = 0 := by unfold nxt; rw [if_neg (by omega), if_neg (by omega)]
theorem nxt_rg (hu : rgP tt1 u to') (hk : u k < mxT u k) : rgP tt1 (nxt u k) to' := by
  intro i hi _
  rcases Nat.lt_trichotomy i k with q | q | q
  · rw [nxt_lo q, mxP_congr (v := u) (fun j hj _ => nxt_lo (by omega))]
    exact hu i hi rfl
  · rw [q, nxt_k, mxP_congr (v := u) (fun j hj _ => nxt_lo (by omega))]
    exact hk
  · rw [nxt_hi q]; exact Nat.zero_le _
theorem nxt_lt (hk' : k < to') : lexLt to' u (nxt u k) := ⟨k, hk', fun j hj => (nxt_lo hj).symm, by rw [nxt_k]; omega⟩
theorem nxt_first {v : Nat → Nat} (hf : from' ≤ k) (hmax : ∀ i, k < i → i < to' → mxT u i ≤ u i) (hv : rgP tt1 v to') (hag : ∀ i, i < from' → v i = u i) (h : lexLt to' u v) : ¬ lexLt to' v (nxt u k) := by
  obtain ⟨j, hj, he, hl⟩ := h
  have hvj : v j ≤ mxT u j := by
    have h1 : v j ≤ mxT v j := hv j hj rfl
    rw [show mxT v j = mxT u j from mxP_congr (fun i hi _ => (he i hi).symm)] at h1
    exact h1
  have hjf : from' ≤ j := Nat.le_of_not_lt fun q => by have := hag j q; omega
  have hjk : j ≤ k := Nat.le_of_not_lt fun q => by have := hmax j q hj; omega
  rintro ⟨i, hi, he', hl'⟩
  rcases Nat.lt_trichotomy i j with q | q | q
  · rw [nxt_lo (by omega), he i q] at hl'; omega
  · subst q
    by_cases z : i = k
    · rw [z, nxt_k] at hl'; rw [z] at hl; omega
    · rw [nxt_lo (by omega)] at hl'; omega
  · have h1 := he' j q
    by_cases z : j = k
    · rw [nxt_hi (by omega)] at hl'; omega
    · rw [nxt_lo (by omega)] at h1; omega
theorem nxt_last {v : Nat → Nat} (hmax : ∀ i, from' ≤ i → i < to' → mxT u i ≤ u i) (hv : rgP tt1 v to') (hag : ∀ i, i < from' → v i = u i) : ¬ lexLt to' u v := by
  rintro ⟨j, hj, he, hl⟩
  have h1 : v j ≤ mxT v j := hv j hj rfl
  rw [show mxT v j = mxT u j from mxP_congr (fun i hi _ => (he i hi).symm)] at h1
  have hjf : from' ≤ j := Nat.le_of_not_lt fun q => by have := hag j q; omega
  have := hmax j hjf hj
  omega
/-- strings as numbers -/
def N8 (u : Nat → Nat) : Nat → Nat
  | 0 => 0
  | n + 1 => 8 * N8 u n + u n
theorem N8_lt {u : Nat → Nat} : ∀ {n : Nat}, (∀ i, i < n → u i < 8) → N8 u n < 8 ^ n := by
  intro n
  induction n with
  | zero => intro _; exact Nat.one_pos
  | succ n ih =>
    intro h
    have h1 := ih (fun i hi => h i (by omega))
    have h2 := h n (by omega)
    rw [N8, Nat.pow_succ]; omega
theorem N8_congr {u v : Nat → Nat} : ∀ {n : Nat}, (∀ i, i < n → u i = v i) → N8 u n = N8 v n := by
  intro n
  induction n with
  | zero => intro _; rfl
  | succ n ih =>
    intro h
    rw [N8, N8, ih (fun i hi => h i (by omega)), h n (by omega)]
theorem N8_lex {u v : Nat → Nat} : ∀ {n : Nat}, (∀ i, i < n → u i < 8) → (∀ i, i < n → v i < 8) → lexLt n u v → N8 u n < N8 v n := by
  intro n
  induction n with
  | zero => rintro _ _ ⟨i, hi, _⟩; omega
  | succ n ih =>
    rintro hu hv ⟨i, hi, he, hl⟩
    rw [N8, N8]
    by_cases z : i = n
    · subst z
      rw [N8_congr he]; omega
    · have h1 := ih (fun i hi => hu i (by omega)) (fun i hi => hv i (by omega)) ⟨i, by omega, he, hl⟩
      have h2 := hu n (by omega)
      omega
end NXT
def J27 (j : Nat) : Prop := j = 27
section GOESON
variable {O : qOb9} {r n : Nat} {S : qS} {u : Nat → Nat}
theorem cmp_le {a m : Nat} (ha : a < 1000) (hm : m < 1000) : (nI a ≤ nI m - 1) ↔ a < m := by
  cases m with
  | zero =>
    rw [nI_0]
    constructor
    · intro q
      have h1 := nI_pos' (n := a) (by omega)
      exact absurd (Int32.le_trans h1 q) (by decide)
    · intro q; omega
  | succ m =>
    rw [nI_pred, nI_leI (by omega) (by omega)]
    omega
theorem cmp_lt {a m : Nat} (ha : a < 1000) (hm : m < 1000) : (nI m - 1 < nI a) ↔ m ≤ a := by
  rw [← Int32.not_le, cmp_le ha hm]
  omega
theorem ref_goesOn_79 (h : Ref O r) {to' : Nat} (ht : to' ≤ 7) : ∀ (d i f : Nat) (S : qS), i + d = to' → d < f → ∃ S', G_XModel_goesOn_79 O n f r (nI to') (nI i) S = some (1, S') ∧ rFr r S S' J27 ∧ ∀ j, S'.1 r 27 j = if i ≤ j ∧ j < to' then 0 else S.1 r 27 j := by
  intro d
  induction d with
  | zero =>
    intro i f S e hf
    obtain ⟨f, rfl⟩ : ∃ q, f = q + 1 := ⟨f - 1, by omega⟩
    rw [G_XModel_goesOn_79, if_pos (nI_le (by omega) (by omega))]
    exact ⟨S, rfl, rFr.refl, fun j => by rw [if_neg (by omega)]⟩
  | succ d ih =>
    intro i f S e hf
    obtain ⟨f, rfl⟩ : ∃ q, f = q + 1 := ⟨f - 1, by omega⟩
    have i27 : i < refN 27 := by show i < 7; omega
    obtain ⟨S', e1, f1, v1⟩ := ih (i + 1) f (up3 S.1 r 27 i 0, S.2) (by omega) (by omega)
    refine ⟨S', ?_, (rFr.up (J := J27) rFr.refl rfl).trans f1, fun j => ?_⟩
    · rw [G_XModel_goesOn_79, if_neg (nI_ge (by omega) (by omega)), rA h (by decide), rw' h (by decide) (by decide) i27, hB_eq, nI_1]
      exact e1
    · rw [v1]
      by_cases z : j = i
      · rw [z, if_neg (by omega), up3_v, if_pos (by omega)]
      · rw [up3_o z]
        by_cases q : i + 1 ≤ j ∧ j < to'
        · rw [if_pos q, if_pos (by omega)]
        · rw [if_neg q, if_neg (by omega)]
theorem ref_goesOn_15 (h : Ref O r) {to' k : Nat} {l1 : Int32} (hk : k < to') (ht : to' ≤ 7) (hu : ∀ i, i < to' → S.1 r 27 i = nI (u i)) (hb : ∀ i, i < to' → u i < 8) (rec4 : Nat → Int32 → Int32 → Int32 → qS → Option (Int32 × qS)) : ∀ (d j f : Nat), j + d = k → d < f → mxT u j ≤ 8 →
    G_XModel_goesOn_15 O n rec4 f r l1 (nI to') (nI k) (nI (mxT u j) - 1) (nI j) S =
      if mxT u k ≤ u k then rec4 r l1 (nI to') (nI k - 1) S else G_XModel_goesOn_79 O n n r (nI to') (nI (k + 1)) (up3 S.1 r 27 k (nI (u k + 1)), S.2) := by
  have k27 : k < refN 27 := by show k < 7; omega
  intro d
  induction d with
  | zero =>
    intro j f e hf hm
    obtain ⟨f, rfl⟩ : ∃ q, f = q + 1 := ⟨f - 1, by omega⟩
    have e0 : j = k := by omega
    subst e0
    have b := hb j (by omega)
    rw [G_XModel_goesOn_15, if_pos (nI_le (by omega) (by omega)), rA h (by decide), rl h (by decide) (by decide) k27, hu j hk]
    by_cases z : mxT u j ≤ u j
    · rw [if_pos ((cmp_lt (by omega) (by omega)).mpr z), if_pos z, hB_eq, Int32.sub_eq_add_neg]
    · rw [if_neg (fun q => z ((cmp_lt (by omega) (by omega)).mp q)), if_neg z, rA h (by decide), rl h (by decide) (by decide) k27, hu j hk, rw' h (by decide) (by decide) k27, hB_eq, nI_1, nI_1]
  | succ d ih =>
    intro j f e hf hm
    obtain ⟨f, rfl⟩ : ∃ q, f = q + 1 := ⟨f - 1, by omega⟩
    have j27 : j < refN 27 := by show j < 7; omega
    have b := hb j (by omega)
    have g45 : ∀ x, x = nI (mxT u (j + 1)) - 1 → G_XModel_goesOn_45 O n rec4 (G_XModel_goesOn_15 O n rec4 f) r l1 (nI to') (nI k) (nI j) x S = if mxT u k ≤ u k then rec4 r l1 (nI to') (nI k - 1) S else G_XModel_goesOn_79 O n n r (nI to') (nI (k + 1)) (up3 S.1 r 27 k (nI (u k + 1)), S.2) := by
      intro x hx
      unfold G_XModel_goesOn_45
      rw [hB_eq, nI_1, hx]
      exact ih (j + 1) f (by omega) (by omega) (by rw [mxT_s]; omega)
    rw [G_XModel_goesOn_15, if_neg (nI_ge (by omega) (by omega)), rA h (by decide), rl h (by decide) (by decide) j27, hu j (by omega)]
    by_cases z : u j < mxT u j
    · rw [if_pos ((cmp_le (by omega) (by omega)).mpr z)]
      exact g45 _ (by rw [mxT_s, Nat.max_eq_left (by omega)])
    · rw [if_neg (fun q => z ((cmp_le (by omega) (by omega)).mp q)), rA h (by decide), rl h (by decide) (by decide) j27, hu j (by omega)]
      exact g45 _ (by rw [mxT_s, Nat.max_eq_right (by omega), nI_pred])
/-- the reference's goesOn -/
theorem ref_goesOn (h : Ref O r) (hn : 7000 ≤ n) {from' to' : Nat} (hft : from' ≤ to') (ht : to' ≤ 7) (hu : ∀ i, i < to' → S.1 r 27 i = nI (u i)) (hrg : rgP tt1 u to') :
    (G_XModel_goesOn O n r (nI from') (nI to') S = some (0, S) ∧ ∀ i, from' ≤ i → i < to' → mxT u i ≤ u i) ∨
    (∃ k S', from' ≤ k ∧ k < to' ∧ u k < mxT u k ∧ (∀ i, k < i → i < to' → mxT u i ≤ u i) ∧ G_XModel_goesOn O n r (nI from') (nI to') S = some (1, S') ∧ rFr r S S' J27 ∧ (∀ i, i < to' → S'.1 r 27 i = nI (nxt u k i)) ∧ ∀ i, to' ≤ i → S'.1 r 27 i = S.1 r 27 i) := by
  have hb : ∀ i, i < to' → u i < 8 := fun i hi => by have := rg_le hrg hi; omega
  have loop : ∀ (c f : Nat), c ≤ to' → from' ≤ c → c < f → (∀ i, c ≤ i → i < to' → mxT u i ≤ u i) →
      (G_XModel_goesOn_4 O n f r (nI from') (nI to') (nI c - 1) S = some (0, S) ∧ ∀ i, from' ≤ i → i < to' → mxT u i ≤ u i) ∨
      (∃ k S', from' ≤ k ∧ k < to' ∧ u k < mxT u k ∧ (∀ i, k < i → i < to' → mxT u i ≤ u i) ∧ G_XModel_goesOn_4 O n f r (nI from') (nI to') (nI c - 1) S = some (1, S') ∧ rFr r S S' J27 ∧ (∀ i, i < to' → S'.1 r 27 i = nI (nxt u k i)) ∧ ∀ i, to' ≤ i → S'.1 r 27 i = S.1 r 27 i) := by
    intro c
    induction c with
    | zero =>
      intro f hc hfc hf hmax
      obtain ⟨f, rfl⟩ : ∃ q, f = q + 1 := ⟨f - 1, by omega⟩
      refine Or.inl ⟨?_, fun i hi hi' => hmax i (by omega) hi'⟩
      rw [G_XModel_goesOn_4, if_pos ((cmp_lt (a := from') (m := 0) (by omega) (by omega)).mpr (by omega))]
    | succ k ih =>
      intro f hc hfc hf hmax
      obtain ⟨f, rfl⟩ : ∃ q, f = q + 1 := ⟨f - 1, by omega⟩
      by_cases z : from' = k + 1
      · refine Or.inl ⟨?_, fun i hi hi' => hmax i (by omega) hi'⟩
        rw [G_XModel_goesOn_4, if_pos ((cmp_lt (by omega) (by omega)).mpr (by omega))]
      · have g := ref_goesOn_15 (O := O) (n := n) (l1 := nI from') h (show k < to' by omega) ht hu hb (G_XModel_goesOn_4 O n f) k 0 n (by omega) (by omega) (Nat.zero_le 8)
        have e0 : nI (mxT u 0) - 1 = (-1 : Int32) := by
          show nI 0 - 1 = _
          decide
        rw [e0, nI_0] at g
        have e4 : G_XModel_goesOn_4 O n (f + 1) r (nI from') (nI to') (nI (k + 1) - 1) S = if mxT u k ≤ u k then G_XModel_goesOn_4 O n f r (nI from') (nI to') (nI k - 1) S else G_XModel_goesOn_79 O n n r (nI to') (nI (k + 1)) (up3 S.1 r 27 k (nI (u k + 1)), S.2) := by
          rw [G_XModel_goesOn_4, if_neg (fun q => by have := (cmp_lt (by omega) (by omega)).mp q; omega), nI_pred]
          exact g
        rw [e4]
        by_cases w : mxT u k ≤ u k
        · rw [if_pos w]
          refine ih f (by omega) (by omega) (by omega) (fun i hi hi' => ?_)
          by_cases q : i = k
          · rw [q]; exact w
          · exact hmax i (by omega) hi'
        · rw [if_neg w]
          obtain ⟨S', e1, f1, v1⟩ := ref_goesOn_79 (O := O) (n := n) h ht (to' - (k + 1)) (k + 1) n (up3 S.1 r 27 k (nI (u k + 1)), S.2) (by omega) (by omega)
          refine Or.inr ⟨k, S', by omega, by omega, by omega, fun i hi hi' => hmax i (by omega) hi', e1, (rFr.up (J := J27) rFr.refl rfl).trans f1, fun i hi => ?_, fun i hi => ?_⟩
          · rw [v1]
            rcases Nat.lt_trichotomy i k with q | q | q
            · rw [if_neg (by omega), up3_o (by omega), nxt_lo q]; exact hu i hi
            · rw [if_neg (by omega), q, up3_v, nxt_k]
            · rw [if_pos (by omega), nxt_hi q]; rfl
          · rw [v1, if_neg (by omega), up3_o (by omega)]
  have e : G_XModel_goesOn O n r (nI from') (nI to') S = G_XModel_goesOn_4 O n n r (nI from') (nI to') (nI to' - 1) S := rfl
  rw [e]
  exact loop to' n (Nat.le_refl _) hft (by omega) (fun i h1 h2 => by omega)
end GOESON
