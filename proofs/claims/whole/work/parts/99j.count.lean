section COUNT
variable {O : qOb9} {r n E N : Nat} {S : qS}
def seenN (g : Nat → Int32) : Nat → Nat
  | 0 => 0
  | e + 1 => seenN g e + (if g e = 0 then 0 else 1)
theorem ref_count_60 (h : Ref O r) (h9 : S.1 r 9 0 = nI E) (hE : E ≤ 16) : ∀ (d e f : Nat), e + d = E → d < f → G_XModel_count_60 O n f r (nI (seenN (S.1 r 15) e)) (nI e) S = some (nI (seenN (S.1 r 15) E), S) := by
  intro d
  induction d with
  | zero =>
    intro e f ee hf
    obtain ⟨f, rfl⟩ : ∃ q, f = q + 1 := ⟨f - 1, by omega⟩
    have e0 : e = E := by omega
    rw [G_XModel_count_60, rI h (by decide), h9, if_pos (nI_le (by omega) (by omega)), e0]
  | succ d ih =>
    intro e f ee hf
    obtain ⟨f, rfl⟩ : ∃ q, f = q + 1 := ⟨f - 1, by omega⟩
    have e15 : e < refN 15 := by show e < 16; omega
    rw [G_XModel_count_60, rI h (by decide), h9, if_neg (nI_ge (by omega) (by omega)), rA h (by decide), rl h (by decide) (by decide) e15]
    have nx := ih (e + 1) f (by omega) (by omega)
    unfold G_XModel_count_83
    by_cases q : S.1 r 15 e = 0
    · have s1 : seenN (S.1 r 15) (e + 1) = seenN (S.1 r 15) e + 0 := by
        show seenN (S.1 r 15) e + (if S.1 r 15 e = 0 then 0 else 1) = _
        rw [if_pos q]
      rw [if_pos q, hB_eq, hB_eq, nI_1, show (0 : Int32) = nI 0 from rfl, nI_add, ← s1]
      exact nx
    · have s1 : seenN (S.1 r 15) (e + 1) = seenN (S.1 r 15) e + 1 := by
        show seenN (S.1 r 15) e + (if S.1 r 15 e = 0 then 0 else 1) = _
        rw [if_neg q]
      rw [if_neg q, hB_eq, hB_eq, nI_1, nI_1, ← s1]
      exact nx
theorem ref_count (h : Ref O r) (hn : 7000 ≤ n) (hF : Face r S E N) (w : Int32) : G_XModel_count O n r w S = some (if w = 0 then nI N else if w = 1 then nI E else if w = 2 then nI (seenN (S.1 r 15) E) else if w = 3 then S.1 r 10 0 else if w = 4 then S.1 r 29 0 else if w = 5 then S.1 r 30 0 else -1, thr S r 0) := by
  have h0 := Face.thr (x := 0) hF
  have hE := hF.2.2.2.1
  unfold G_XModel_count
  rw [rP0 h]
  by_cases w0 : w = 0
  · rw [if_pos w0, if_pos w0, rI h (by decide), h0.1]
  rw [if_neg w0, if_neg w0]
  by_cases w1 : w = 1
  · rw [if_pos w1, if_pos w1, rI h (by decide), h0.2.1]
  rw [if_neg w1, if_neg w1]
  by_cases w2 : w = 2
  · rw [if_pos w2, if_pos w2]
    have q := ref_count_60 (O := O) (n := n) (S := thr S r 0) h h0.2.1 hE E 0 n (by omega) (by omega)
    rw [thr_f (by decide)] at q
    exact q
  rw [if_neg w2, if_neg w2]
  by_cases w3 : w = 3
  · rw [if_pos w3, if_pos w3, rI h (by decide), thr_f (by decide)]
  rw [if_neg w3, if_neg w3]
  by_cases w4 : w = 4
  · rw [if_pos w4, if_pos w4, rI h (by decide), thr_f (by decide)]
  rw [if_neg w4, if_neg w4]
  by_cases w5 : w = 5
  · rw [if_pos w5, if_pos w5, rI h (by decide), thr_f (by decide)]
  rw [if_neg w5, if_neg w5]
end COUNT
