/-! GROWTH STRINGS: each number was there before, or is the next one. P: the places that count. -/
def mxP (P : Nat → Bool) (u : Nat → Nat) : Nat → Nat
  | 0 => 0
  | i + 1 => if P i = true then max (mxP P u i) (u i + 1) else mxP P u i
theorem mxP_congr {P : Nat → Bool} {u v : Nat → Nat} : ∀ {i : Nat}, (∀ j, j < i → P j = true → u j = v j) → mxP P u i = mxP P v i := by
  intro i
  induction i with
  | zero => intro _; rfl
  | succ i ih =>
    intro h
    rw [mxP, mxP, ih (fun j hj => h j (by omega))]
    by_cases q : P i = true
    · rw [if_pos q, if_pos q, h i (by omega) q]
    · rw [if_neg q, if_neg q]
theorem mxP_lt {P : Nat → Bool} {u : Nat → Nat} {j : Nat} (hp : P j = true) : ∀ {i : Nat}, j < i → u j < mxP P u i := by
  intro i
  induction i with
  | zero => intro h; omega
  | succ i ih =>
    intro h
    rw [mxP]
    by_cases e : j = i
    · subst e
      rw [if_pos hp]; omega
    · have := ih (by omega)
      by_cases q : P i = true
      · rw [if_pos q]; omega
      · rw [if_neg q]; exact this
theorem mxP_mono {P P' : Nat → Bool} {u : Nat → Nat} (h : ∀ i, P i = true → P' i = true) : ∀ i, mxP P u i ≤ mxP P' u i := by
  intro i
  induction i with
  | zero => exact Nat.le_refl 0
  | succ i ih =>
    rw [mxP, mxP]
    by_cases q : P i = true
    · rw [if_pos q, if_pos (h i q)]; omega
    · rw [if_neg q]
      by_cases q' : P' i = true
      · rw [if_pos q']; omega
      · rw [if_neg q']; exact ih
/-- a growth string in the places of P below K -/
def rgP (P : Nat → Bool) (u : Nat → Nat) (K : Nat) : Prop := ∀ i, i < K → P i = true → u i ≤ mxP P u i
theorem rgP_onto {P : Nat → Bool} {u : Nat → Nat} : ∀ {K : Nat}, rgP P u K → ∀ x, x < mxP P u K → ∃ j, j < K ∧ P j = true ∧ u j = x := by
  intro K
  induction K with
  | zero => intro _ x h; rw [mxP] at h; omega
  | succ K ih =>
    intro h x hx
    rw [mxP] at hx
    by_cases q : P K = true
    · rw [if_pos q] at hx
      by_cases z : x < mxP P u K
      · obtain ⟨j, h1, h2, h3⟩ := ih (fun i hi => h i (by omega)) x z
        exact ⟨j, by omega, h2, h3⟩
      · have := h K (by omega) q
        exact ⟨K, by omega, q, by omega⟩
    · rw [if_neg q] at hx
      obtain ⟨j, h1, h2, h3⟩ := ih (fun i hi => h i (by omega)) x hx
      exact ⟨j, by omega, h2, h3⟩
/-- u has the same places alike as v -/
def alike (P : Nat → Bool) (u v : Nat → Nat) (K : Nat) : Prop := ∀ i j, i < K → j < K → P i = true → P j = true → (u i = u j ↔ v i = v j)
theorem canonP (P : Nat → Bool) (v : Nat → Nat) : ∀ K, ∃ u : Nat → Nat, (∀ i, P i = false → u i = 0) ∧ rgP P u K ∧ alike P u v K := by
  intro K
  induction K with
  | zero => exact ⟨fun _ => 0, fun _ _ => rfl, fun i hi => absurd hi (Nat.not_lt_zero i), fun i j hi => absurd hi (Nat.not_lt_zero i)⟩
  | succ K ih =>
    obtain ⟨u, h0, h1, h2⟩ := ih
    by_cases q : P K = true
    · have put : ∀ x, x ≤ mxP P u K → (∀ j, j < K → P j = true → (u j = x ↔ v j = v K)) → ∃ u : Nat → Nat, (∀ i, P i = false → u i = 0) ∧ rgP P u (K + 1) ∧ alike P u v (K + 1) := by
        intro x hx hj
        have lo : ∀ i, i < K → (fun i => if i = K then x else u i) i = u i := fun i hi => if_neg (by omega)
        have hi : (fun i => if i = K then x else u i) K = x := if_pos rfl
        refine ⟨fun i => if i = K then x else u i, fun i hp => ?_, fun i hi' hp => ?_, fun i j hi' hj' pi pj => ?_⟩
        · have : i ≠ K := fun e => by rw [e, q] at hp; cases hp
          show (if i = K then x else u i) = 0
          rw [if_neg this]; exact h0 i hp
        · have e : mxP P (fun i => if i = K then x else u i) i = mxP P u i := mxP_congr (fun j hj _ => lo j (by omega))
          rw [e]
          by_cases z : i = K
          · rw [z, hi]; exact hx
          · rw [lo i (by omega)]; exact h1 i (by omega) hp
        · by_cases z : i = K
          · by_cases z' : j = K
            · rw [z, z']; exact ⟨fun _ => rfl, fun _ => rfl⟩
            · rw [z, hi, lo j (by omega)]
              have := hj j (by omega) pj
              exact ⟨fun w => (this.mp w.symm).symm, fun w => (this.mpr w.symm).symm⟩
          · by_cases z' : j = K
            · rw [z', hi, lo i (by omega)]
              exact hj i (by omega) pi
            · rw [lo i (by omega), lo j (by omega)]
              exact h2 i j (by omega) (by omega) pi pj
      by_cases old : ∃ j, j < K ∧ P j = true ∧ v j = v K
      · obtain ⟨j, hj, pj, e⟩ := old
        refine put (u j) (Nat.le_of_lt (mxP_lt pj hj)) (fun i hi pi => ?_)
        rw [← e]
        exact h2 i j hi hj pi pj
      · refine put (mxP P u K) (Nat.le_refl _) (fun i hi pi => ?_)
        refine ⟨fun w => ?_, fun w => absurd ⟨i, hi, pi, w⟩ old⟩
        have := mxP_lt (u := u) pi hi
        omega
    · have qf : P K = false := by cases h : P K <;> simp_all
      refine ⟨u, h0, fun i hi hp => ?_, fun i j hi hj pi pj => ?_⟩
      · have : i ≠ K := fun e => q (by rw [← e]; exact hp)
        exact h1 i (by omega) hp
      · have z1 : i ≠ K := fun e => q (by rw [← e]; exact pi)
        have z2 : j ≠ K := fun e => q (by rw [← e]; exact pj)
        exact h2 i j (by omega) (by omega) pi pj
/-- the growth string is not above a string that is the same ahead -/
theorem canon_le {P : Nat → Bool} {u v : Nat → Nat} {K i : Nat} (h1 : rgP P u K) (h2 : alike P u v K) (hi : i < K) (hp : P i = true) (he : ∀ j, j < i → P j = true → u j = v j) : u i ≤ v i := by
  by_cases old : ∃ j, j < i ∧ P j = true ∧ v j = v i
  · obtain ⟨j, hj, pj, e⟩ := old
    have := (h2 j i (by omega) hi pj hp).mpr e
    rw [← this, he j hj pj, e]
    exact Nat.le_refl _
  · have hu := h1 i hi hp
    by_cases z : v i < mxP P u i
    · obtain ⟨j, hj, pj, e⟩ := rgP_onto (fun k hk => h1 k (by omega)) (v i) z
      exact absurd ⟨j, hj, pj, by rw [← he j hj pj]; exact e⟩ old
    · omega
/-- and it is the string itself, where that is a growth string -/
theorem canon_fix {P : Nat → Bool} {u v : Nat → Nat} {K W : Nat} (h1 : rgP P u K) (h2 : alike P u v K) (hW : W ≤ K) (hv : rgP P v W) : ∀ i, i < W → P i = true → u i = v i := by
  intro i
  induction i using Nat.strongRecOn with
  | ind i ih =>
    intro hi hp
    have he : ∀ j, j < i → P j = true → u j = v j := fun j hj pj => ih j hj (by omega) pj
    have hle := canon_le h1 h2 (by omega) hp he
    have em : mxP P u i = mxP P v i := mxP_congr he
    by_cases z : v i ≤ u i
    · omega
    · have hv' := hv i hi hp
      obtain ⟨j, hj, pj, e⟩ := rgP_onto (K := i) (u := v) (fun k hk => hv k (by omega)) (u i) (by omega)
      rw [← he j hj pj] at e
      have := (h2 j i (by omega) (by omega) pj hp).mp e
      rw [← this, ← he j hj pj, e]
/-- words go: the first place that differs decides -/
def lexLt (n : Nat) (s s' : Nat → Nat) : Prop := ∃ i, i < n ∧ (∀ j, j < i → s j = s' j) ∧ s i < s' i
theorem lex_tri (s s' : Nat → Nat) : ∀ n, (∀ j, j < n → s j = s' j) ∨ lexLt n s s' ∨ lexLt n s' s := by
  intro n
  induction n with
  | zero => exact Or.inl fun j hj => absurd hj (Nat.not_lt_zero j)
  | succ n ih =>
    rcases ih with h | ⟨i, hi, he, hl⟩ | ⟨i, hi, he, hl⟩
    · rcases Nat.lt_trichotomy (s n) (s' n) with q | q | q
      · exact Or.inr (Or.inl ⟨n, by omega, h, q⟩)
      · refine Or.inl fun j hj => ?_
        by_cases z : j = n
        · rw [z]; exact q
        · exact h j (by omega)
      · exact Or.inr (Or.inr ⟨n, by omega, fun j hj => (h j hj).symm, q⟩)
    · exact Or.inr (Or.inl ⟨i, by omega, he, hl⟩)
    · exact Or.inr (Or.inr ⟨i, by omega, he, hl⟩)
theorem lex_irr {n : Nat} {s s' : Nat → Nat} (h : lexLt n s s') (h' : ∀ j, j < n → s j = s' j) : False := by
  obtain ⟨i, hi, -, hl⟩ := h
  have := h' i hi
  omega
theorem lex_asym {n : Nat} {s s' : Nat → Nat} (h : lexLt n s s') (h' : lexLt n s' s) : False := by
  obtain ⟨i, hi, he, hl⟩ := h
  obtain ⟨k, hk, he', hl'⟩ := h'
  rcases Nat.lt_trichotomy i k with q | q | q
  · have := he' i q; omega
  · subst q; omega
  · have := he k q; omega
/-! STATES: places 0 to 15 truth elements, 16 FETCH, 17 to 32 word elements. -/
/-- the words among the places -/
def wP (P : Nat → Bool) (i : Nat) : Bool := decide (17 ≤ i) && P i
/-- a state of the places of P for which Q: nothing elsewhere, words in growth -/
def X (P : Nat → Bool) (Q : (Nat → Nat) → Prop) (s : Nat → Nat) : Prop := (∀ i, P i = false → s i = 0) ∧ (∀ i, i < 17 → s i ≤ 1) ∧ rgP (wP P) s 33 ∧ Q s
/-- Q looks at the places of P alone, and whether words are the same -/
def Qin (P : Nat → Bool) (Q : (Nat → Nat) → Prop) : Prop := ∀ s s', (∀ i, i < 17 → P i = true → s' i = s i) → alike (wP P) s' s 33 → Q s → Q s'
theorem wP_iff {P : Nat → Bool} {i : Nat} : wP P i = true ↔ 17 ≤ i ∧ P i = true := by
  unfold wP
  rw [Bool.and_eq_true, decide_eq_true_iff]
theorem X_more {P P' : Nat → Bool} {Q : (Nat → Nat) → Prop} {s : Nat → Nat} (hP : ∀ i, P i = true → P' i = true) (h : X P Q s) : X P' Q s := by
  obtain ⟨h0, h1, h2, h3⟩ := h
  have hw : ∀ i, wP P i = true → wP P' i = true := fun i hi => wP_iff.mpr ⟨(wP_iff.mp hi).1, hP i (wP_iff.mp hi).2⟩
  refine ⟨fun i hi => h0 i ?_, h1, fun i hi hp => ?_, h3⟩
  · cases q : P i with
    | false => rfl
    | true => rw [hP i q] at hi; cases hi
  · cases q : wP P i with
    | true =>
      have := h2 i hi q
      have := mxP_mono (u := s) hw i
      omega
    | false =>
      have : P i = false := by
        cases z : P i with
        | false => rfl
        | true => rw [wP_iff.mpr ⟨(wP_iff.mp hp).1, z⟩] at q; cases q
      rw [h0 i this]
      exact Nat.zero_le _
theorem X_less {P P' : Nat → Bool} {Q : (Nat → Nat) → Prop} {s : Nat → Nat} (hQ : Qin P Q) (h : X P' Q s) : ∃ s', X P Q s' ∧ ((∀ i, i < 33 → s' i = s i) ∨ lexLt 33 s' s) := by
  obtain ⟨h0, h1, h2, h3⟩ := h
  obtain ⟨u, u0, u1, u2⟩ := canonP (wP P) s 33
  let s' : Nat → Nat := fun i => if i < 17 then (if P i = true then s i else 0) else u i
  have lo : ∀ i, i < 17 → s' i = if P i = true then s i else 0 := fun i hi => if_pos hi
  have hi' : ∀ i, 17 ≤ i → s' i = u i := fun i hi => if_neg (by omega)
  have hwu : ∀ i, wP P i = true → s' i = u i := fun i hi => hi' i (wP_iff.mp hi).1
  have al : alike (wP P) s' s 33 := fun i j hi hj pi pj => by
    rw [hwu i pi, hwu j pj]; exact u2 i j hi hj pi pj
  have rg : rgP (wP P) s' 33 := fun i hi pi => by
    rw [hwu i pi, mxP_congr (v := u) (fun j _ pj => hwu j pj)]
    exact u1 i hi pi
  refine ⟨s', ⟨fun i hi => ?_, fun i hi => ?_, rg, hQ s s' (fun i hi pi => ?_) al h3⟩, ?_⟩
  · by_cases z : i < 17
    · rw [lo i z, if_neg (by rw [hi]; decide)]
    · rw [hi' i (by omega)]
      apply u0
      unfold wP
      rw [hi, Bool.and_false]
  · rw [lo i hi]
    by_cases q : P i = true
    · rw [if_pos q]; exact h1 i hi
    · rw [if_neg q]; omega
  · rw [lo i hi, if_pos pi]
  · rcases lex_tri s' s 33 with q | q | ⟨i, hi, he, hl⟩
    · exact Or.inl q
    · exact Or.inr q
    · exfalso
      by_cases z : i < 17
      · rw [lo i z] at hl
        by_cases q : P i = true
        · rw [if_pos q] at hl; omega
        · rw [if_neg q] at hl; omega
      · cases q : wP P i with
        | true =>
          have := canon_le rg al hi q (fun j hj _ => (he j hj).symm)
          omega
        | false =>
          rw [hi' i (by omega), u0 i q] at hl
          omega
/-- the least state is the same for more places than Q looks at -/
def Lst (P : Nat → Bool) (Q : (Nat → Nat) → Prop) (s : Nat → Nat) : Prop := X P Q s ∧ ∀ s', X P Q s' → ¬ lexLt 33 s' s
theorem Lst_same {P P' : Nat → Bool} {Q : (Nat → Nat) → Prop} {s s' : Nat → Nat} (hP : ∀ i, P i = true → P' i = true) (hQ : Qin P Q) (h : Lst P Q s) (h' : Lst P' Q s') : ∀ i, i < 33 → s i = s' i := by
  obtain ⟨x, hx, hc⟩ := X_less hQ h'.1
  have h1 := h'.2 s (X_more hP h.1)
  have hx' := h'.2 x (X_more hP hx)
  have hxs := h.2 x hx
  have e : ∀ i, i < 33 → x i = s' i := by
    rcases hc with q | q
    · exact q
    · exact absurd q hx'
  rcases lex_tri s s' 33 with q | q | ⟨i, hi, he, hl⟩
  · exact q
  · exact absurd q h1
  · exfalso
    apply hxs
    exact ⟨i, hi, fun j hj => (e j (by omega)).trans (he j hj), by rw [e i hi]; exact hl⟩
theorem X_none {P P' : Nat → Bool} {Q : (Nat → Nat) → Prop} (hP : ∀ i, P i = true → P' i = true) (hQ : Qin P Q) : (∃ s, X P Q s) ↔ ∃ s, X P' Q s :=
  ⟨fun ⟨s, h⟩ => ⟨s, X_more hP h⟩, fun ⟨_, h⟩ => (X_less hQ h).elim fun s' z => ⟨s', z.1⟩⟩
