/-! STATES AS NUMBER AND STRING -/
def N2 (u : Nat → Nat) : Nat → Nat
  | 0 => 0
  | n + 1 => 2 * N2 u n + u n
theorem N2_lt {u : Nat → Nat} : ∀ {n : Nat}, (∀ i, i < n → u i ≤ 1) → N2 u n < 2 ^ n := by
  intro n
  induction n with
  | zero => intro _; exact Nat.one_pos
  | succ n ih =>
    intro h
    have h1 := ih (fun i hi => h i (by omega))
    have h2 := h n (by omega)
    rw [N2, Nat.pow_succ]; omega
theorem N2_congr {u v : Nat → Nat} : ∀ {n : Nat}, (∀ i, i < n → u i = v i) → N2 u n = N2 v n := by
  intro n
  induction n with
  | zero => intro _; rfl
  | succ n ih =>
    intro h
    rw [N2, N2, ih (fun i hi => h i (by omega)), h n (by omega)]
theorem N2_lex {u v : Nat → Nat} : ∀ {n : Nat}, (∀ i, i < n → u i ≤ 1) → (∀ i, i < n → v i ≤ 1) → lexLt n u v → N2 u n < N2 v n := by
  intro n
  induction n with
  | zero => rintro _ _ ⟨i, hi, _⟩; omega
  | succ n ih =>
    rintro hu hv ⟨i, hi, he, hl⟩
    rw [N2, N2]
    by_cases z : i = n
    · subst z
      rw [N2_congr he]; omega
    · have h1 := ih (fun i hi => hu i (by omega)) (fun i hi => hv i (by omega)) ⟨i, by omega, he, hl⟩
      have h2 := hu n (by omega)
      omega
/-- the bits of t, highest first -/
def bits (nt t k : Nat) : Nat := t / 2 ^ (nt - 1 - k) % 2
theorem bits_01 {nt t k : Nat} : bits nt t k ≤ 1 := by
  unfold bits
  have := Nat.mod_lt (t / 2 ^ (nt - 1 - k)) (show 0 < 2 by decide)
  omega
theorem N2_bits {nt t : Nat} (ht : t < 2 ^ nt) : ∀ j, j ≤ nt → N2 (bits nt t) j = t / 2 ^ (nt - j) := by
  intro j
  induction j with
  | zero => intro _; rw [N2, Nat.sub_zero, Nat.div_eq_of_lt ht]
  | succ j ih =>
    intro hj
    rw [N2, ih (by omega)]
    unfold bits
    have e : nt - j = (nt - 1 - j) + 1 := by omega
    rw [e, Nat.pow_succ, ← Nat.div_div_eq_div_mul, show nt - (j + 1) = nt - 1 - j by omega]
    omega
theorem N2_all {nt t : Nat} (ht : t < 2 ^ nt) : N2 (bits nt t) nt = t := by
  rw [N2_bits ht nt (Nat.le_refl nt), Nat.sub_self, Nat.pow_zero, Nat.div_one]
theorem bits_N2 {u : Nat → Nat} : ∀ {n : Nat}, (∀ i, i < n → u i ≤ 1) → ∀ k, k < n → bits n (N2 u n) k = u k := by
  intro n
  induction n with
  | zero => intro _ k hk; omega
  | succ n ih =>
    intro h k hk
    unfold bits
    rw [N2]
    have hn := h n (by omega)
    by_cases z : k = n
    · subst z
      rw [show k + 1 - 1 - k = 0 by omega, Nat.pow_zero, Nat.div_one]; omega
    · have := ih (fun i hi => h i (by omega)) k (by omega)
      unfold bits at this
      rw [show n + 1 - 1 - k = (n - 1 - k) + 1 by omega, Nat.pow_succ, Nat.mul_comm (2 ^ (n - 1 - k)) 2, ← Nat.div_div_eq_div_mul, show (2 * N2 u n + u n) / 2 = N2 u n by omega]
      exact this
/-- the truths among the places -/
def tP (P : Nat → Bool) (i : Nat) : Bool := decide (i < 17) && P i
theorem tP_iff {P : Nat → Bool} {i : Nat} : tP P i = true ↔ i < 17 ∧ P i = true := by
  unfold tP
  rw [Bool.and_eq_true, decide_eq_true_iff]
/-- the state of number t and string w -/
def stt (P : Nat → Bool) (nt t : Nat) (w : Nat → Nat) (i : Nat) : Nat := if P i = true then (if i < 17 then bits nt t (cnt (tP P) i) else w (cnt (wP P) i)) else 0
section LEAST
variable {P : Nat → Bool} {nt nw : Nat}
theorem mx_cnt {Q : Nat → Bool} {s w : Nat → Nat} (h : ∀ i, Q i = true → w (cnt Q i) = s i) : ∀ i, mxP Q s i = mxT w (cnt Q i) := by
  intro i
  induction i with
  | zero => rfl
  | succ i ih =>
    rw [mxP, cnt_s]
    by_cases q : Q i = true
    · rw [if_pos q, if_pos q, mxT_s, ← ih, h i q]
    · rw [if_neg q, if_neg q, ih]; rfl
theorem stt_X {t : Nat} {w : Nat → Nat} (hnw : nw = cnt (wP P) 33) (hw : rgP tt1 w nw) : (∀ i, P i = false → stt P nt t w i = 0) ∧ (∀ i, i < 17 → stt P nt t w i ≤ 1) ∧ rgP (wP P) (stt P nt t w) 33 := by
  refine ⟨fun i hi => ?_, fun i hi => ?_, fun i hi hp => ?_⟩
  · unfold stt; rw [if_neg (by rw [hi]; decide)]
  · unfold stt
    by_cases q : P i = true
    · rw [if_pos q, if_pos hi]; exact bits_01
    · rw [if_neg q]; omega
  · have e : ∀ i, wP P i = true → w (cnt (wP P) i) = stt P nt t w i := fun i hp => by
      obtain ⟨h1, h2⟩ := wP_iff.mp hp
      unfold stt
      rw [if_pos h2, if_neg (by omega)]
    rw [mx_cnt e, ← e i hp]
    exact hw _ (by rw [hnw]; exact cnt_lt hi hp) rfl
theorem stt_all {s : Nat → Nat} (hnt : nt = cnt (tP P) 17) (hnw : nw = cnt (wP P) 33) (h0 : ∀ i, P i = false → s i = 0) (h1 : ∀ i, i < 17 → s i ≤ 1) (h2 : rgP (wP P) s 33) : ∃ t w, t < 2 ^ nt ∧ rgP tt1 w nw ∧ ∀ i, i < 33 → s i = stt P nt t w i := by
  -- the compact strings
  have key : ∀ (Q : Nat → Bool) (N : Nat), ∃ u : Nat → Nat, ∀ i, i < N → Q i = true → u (cnt Q i) = s i := by
    intro Q N
    induction N with
    | zero => exact ⟨fun _ => 0, fun i hi => absurd hi (Nat.not_lt_zero i)⟩
    | succ N ih =>
      obtain ⟨u, hu⟩ := ih
      by_cases q : Q N = true
      · refine ⟨fun k => if k = cnt Q N then s N else u k, fun i hi hq => ?_⟩
        by_cases z : i = N
        · rw [z]; exact if_pos rfl
        · have := cnt_lt (show i < N by omega) hq
          show (if cnt Q i = cnt Q N then s N else u (cnt Q i)) = s i
          rw [if_neg (by omega)]; exact hu i (by omega) hq
      · refine ⟨u, fun i hi hq => ?_⟩
        by_cases z : i = N
        · rw [z] at hq; exact absurd hq q
        · exact hu i (by omega) hq
  obtain ⟨b, hb⟩ := key (tP P) 17
  obtain ⟨w, hw⟩ := key (wP P) 33
  have b01 : ∀ k, k < nt → b k ≤ 1 := fun k hk => by
    rw [hnt] at hk
    obtain ⟨i, hi, hp, ec⟩ := cnt_hit hk
    rw [← ec, hb i hi hp]; exact h1 i hi
  refine ⟨N2 b nt, w, N2_lt b01, fun k hk _ => ?_, fun i hi => ?_⟩
  · rw [hnw] at hk
    obtain ⟨i, hi, hp, ec⟩ := cnt_hit hk
    have := h2 i hi hp
    have e : mxP (wP P) s i = mxT w (cnt (wP P) i) := by
      clear this hp ec hk
      induction i with
      | zero => rfl
      | succ i ih =>
        rw [mxP, cnt_s, ih (by omega)]
        by_cases q : wP P i = true
        · rw [if_pos q, if_pos q, mxT_s, hw i (by omega) q]
        · rw [if_neg q, if_neg q]; rfl
    rw [e, ec] at this
    rw [← ec, hw i hi hp, ec]
    exact this
  · unfold stt
    cases q : P i with
    | false => rw [if_neg (by decide)]; exact h0 i q
    | true =>
      rw [if_pos rfl]
      by_cases z : i < 17
      · have hp : tP P i = true := tP_iff.mpr ⟨z, q⟩
        rw [if_pos z, bits_N2 b01 _ (by rw [hnt]; exact cnt_lt z hp), hb i z hp]
      · have hp : wP P i = true := wP_iff.mpr ⟨by omega, q⟩
        rw [if_neg z, hw i hi hp]
theorem stt_lex {t t' : Nat} {w w' : Nat → Nat} (hnt : nt = cnt (tP P) 17) (hnw : nw = cnt (wP P) 33) (ht : t < 2 ^ nt) (ht' : t' < 2 ^ nt) (h : lexLt 33 (stt P nt t' w') (stt P nt t w)) : t' < t ∨ (t' = t ∧ lexLt nw w' w) := by
  obtain ⟨i, hi, he, hl⟩ := h
  have hp : P i = true := by
    cases q : P i with
    | true => rfl
    | false => unfold stt at hl; rw [q, if_neg (by decide), if_neg (by decide)] at hl; omega
  have bit : ∀ j, j < 17 → P j = true → stt P nt t' w' j = bits nt t' (cnt (tP P) j) ∧ stt P nt t w j = bits nt t (cnt (tP P) j) := fun j hj hq => by
    unfold stt; rw [if_pos hq, if_pos hj, if_pos hq, if_pos hj]; exact ⟨rfl, rfl⟩
  have wrd : ∀ j, 17 ≤ j → P j = true → stt P nt t' w' j = w' (cnt (wP P) j) ∧ stt P nt t w j = w (cnt (wP P) j) := fun j hj hq => by
    unfold stt; rw [if_pos hq, if_neg (by omega), if_pos hq, if_neg (by omega)]; exact ⟨rfl, rfl⟩
  by_cases z : i < 17
  · left
    have hpi : tP P i = true := tP_iff.mpr ⟨z, hp⟩
    have hk : cnt (tP P) i < nt := by rw [hnt]; exact cnt_lt z hpi
    rw [(bit i z hp).1, (bit i z hp).2] at hl
    have := N2_lex (u := bits nt t') (v := bits nt t) (n := nt) (fun _ _ => bits_01) (fun _ _ => bits_01) ⟨cnt (tP P) i, hk, fun k hk' => by
      obtain ⟨j, hj, hpj, ec⟩ := cnt_hit (show k < cnt (tP P) i from hk')
      have q := he j hj
      obtain ⟨h1, h2⟩ := tP_iff.mp hpj
      rw [(bit j h1 h2).1, (bit j h1 h2).2, ec] at q
      exact q, hl⟩
    rw [N2_all ht, N2_all ht'] at this
    exact this
  · right
    have hpi : wP P i = true := wP_iff.mpr ⟨by omega, hp⟩
    have hk : cnt (wP P) i < nw := by rw [hnw]; exact cnt_lt hi hpi
    refine ⟨?_, cnt (wP P) i, hk, fun k hk' => ?_, ?_⟩
    · rw [← N2_all ht, ← N2_all ht']
      refine N2_congr (fun k hk' => ?_)
      rw [hnt] at hk'
      obtain ⟨j, hj, hpj, ec⟩ := cnt_hit hk'
      have q := he j (by omega)
      obtain ⟨h1, h2⟩ := tP_iff.mp hpj
      rw [(bit j h1 h2).1, (bit j h1 h2).2, ec] at q
      exact q
    · obtain ⟨j, hj, hpj, ec⟩ := cnt_hit hk'
      have q := he j hj
      obtain ⟨h1, h2⟩ := wP_iff.mp hpj
      rw [(wrd j h1 h2).1, (wrd j h1 h2).2, ec] at q
      exact q
    · rw [(wrd i (by omega) hp).1, (wrd i (by omega) hp).2] at hl
      exact hl
/-- the first number and string of which Q holds are the least state -/
theorem Lst_of {Q : (Nat → Nat) → Prop} {t : Nat} {w : Nat → Nat} (hnt : nt = cnt (tP P) 17) (hnw : nw = cnt (wP P) 33) (hQ : Qin P Q) (ht : t < 2 ^ nt) (hw : rgP tt1 w nw) (hq : Q (stt P nt t w)) (hmin : ∀ t' w', t' < 2 ^ nt → rgP tt1 w' nw → (t' < t ∨ (t' = t ∧ lexLt nw w' w)) → ¬ Q (stt P nt t' w')) : Lst P Q (stt P nt t w) := by
  obtain ⟨x0, x1, x2⟩ := stt_X (nt := nt) (t := t) hnw hw
  refine ⟨⟨x0, x1, x2, hq⟩, fun s' hs' hl => ?_⟩
  obtain ⟨y0, y1, y2, y3⟩ := hs'
  obtain ⟨t', w', ht', hw', e⟩ := stt_all hnt hnw y0 y1 y2
  have hl' : lexLt 33 (stt P nt t' w') (stt P nt t w) := by
    obtain ⟨i, hi, he, hlt⟩ := hl
    exact ⟨i, hi, fun j hj => by rw [← e j (by omega)]; exact he j hj, by rw [← e i hi]; exact hlt⟩
  refine hmin t' w' ht' hw' (stt_lex hnt hnw ht ht' hl') (hQ s' _ (fun i hi _ => (e i (by omega)).symm) (fun i j hi hj _ _ => by rw [e i hi, e j hj]) y3)
theorem X_noneof {Q : (Nat → Nat) → Prop} (hnt : nt = cnt (tP P) 17) (hnw : nw = cnt (wP P) 33) (hQ : Qin P Q) (hmin : ∀ t' w', t' < 2 ^ nt → rgP tt1 w' nw → ¬ Q (stt P nt t' w')) : ¬ ∃ s, X P Q s := by
  rintro ⟨s', y0, y1, y2, y3⟩
  obtain ⟨t', w', ht', hw', e⟩ := stt_all hnt hnw y0 y1 y2
  exact hmin t' w' ht' hw' (hQ s' _ (fun i hi _ => (e i (by omega)).symm) (fun i j hi hj _ _ => by rw [e i hi, e j hj]) y3)
end LEAST
