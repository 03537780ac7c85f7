section NEXT
variable {O : qOb9} {r n E N : Nat} {S : qS}
/-- the elements' nodes -/
def Els (r : Nat) (S : qS) (E N : Nat) : Prop := ∀ e, e < E → ∃ m, m < N ∧ S.1 r 11 e = nI m ∧ (S.1 r 3 m = 3 ∨ S.1 r 3 m = 4) ∧ S.1 r 4 m = nI e
/-- element e is a word -/
def eW (S : qS) (r : Nat) (e : Int32) : Bool := decide (S.1 r 3 (S.1 r 11 e.toNatClampNeg).toNatClampNeg = 3)
theorem ref_isOfSort (h : Ref O r) (hn : 7000 ≤ n) (hF : Face r S E N) (hE : Els r S E N) {e x : Int32} (he : inN e E = true) (hx : inN x N = true) : G_XModel_isOfSort O n r e x S = some (bN (fW S r x == eW S r e), S) := by
  have hN := hF.2.2.1
  have h16 := hF.2.2.2.1
  obtain ⟨q, hq, rfl⟩ := (inN_iff (by omega)).mp he
  obtain ⟨m, hm, e11, -⟩ := hE q hq
  have q11 : q < refN 11 := by show q < 16; omega
  have m3 : m < refN 3 := by show m < 6400; omega
  unfold G_XModel_isOfSort
  rw [rk h, face_isWord h hn hF hx, yC_some, rA h (by decide), rA h (by decide), rl h (by decide) (by decide) q11, e11, rl h (by decide) (by decide) m3]
  unfold eW
  rw [nI_clamp (by omega), e11, nI_clamp (by omega)]
  unfold G_XModel_isOfSort_25 G_XModel_isOfSort_33
  by_cases k3 : S.1 r 3 m = 3
  · rw [if_pos k3, decide_eq_true k3]
    cases fW S r x <;> rfl
  · rw [if_neg k3, decide_eq_false k3]
    cases fW S r x <;> rfl
/-- e's place in a row -/
def upd1 (g : Nat → Int32) (e : Nat) (v : Int32) : Nat → Int32 := fun i => if i = e then v else g i
theorem ref_next (h : Ref O r) (hn : 7000 ≤ n) (hF : Face r S E N) (hE : Els r S E N) (h01 : ∀ e, e < E → S.1 r 13 e = 0 ∨ S.1 r 13 e = 1) (e x : Int32) :
    G_XModel_next O n r e x S = cond (inN e E && inN x N) (cond (fW S r x == eW S r e) (some (S.1 r 13 e.toNatClampNeg, setF (setF (thr S r 0) r 12 (upd1 (S.1 r 12) e.toNatClampNeg x)) r 13 (upd1 (S.1 r 13) e.toNatClampNeg 1))) (some (0, thr S r 2))) (some (0, thr S r 1)) := by
  have h35 : ∀ t : Int32, ¬ t ≤ 0 → G_XModel_next_35 O n r e x r t S = some (0, thr S r t) := by
    intro t ht
    unfold G_XModel_next_35
    rw [rP0 h, rI h (by decide), thr_0, if_neg ht]
  unfold G_XModel_next G_XModel_next_17
  rw [rk h, ref_isElement h hF.2.1, yC_some, bN_if]
  cases he : inN e E with
  | false => exact h35 1 (by decide)
  | true =>
    simp only [cond_true, Bool.true_and]
    rw [rk h, face_isNode h hF, yC_some, bN_if]
    cases hx : inN x N with
    | false => exact h35 1 (by decide)
    | true =>
      simp only [cond_true]
      rw [rk h, ref_isOfSort h hn hF hE he hx, yC_some, bN_if]
      cases hs : (fW S r x == eW S r e) with
      | false => exact h35 2 (by decide)
      | true =>
        simp only [cond_true]
        have h16 := hF.2.2.2.1
        obtain ⟨q, hq, rfl⟩ := (inN_iff (by omega)).mp he
        have q13 : q < refN 13 := by show q < 16; omega
        have q12 : q < refN 12 := by show q < 16; omega
        unfold G_XModel_next_35
        rw [rP0 h, rI h (by decide), thr_0, if_pos (by decide), rA h (by decide), rl h (by decide) (by decide) q13, rA h (by decide), rw' h (by decide) (by decide) q12, setF_up, rA h (by decide), rw' h (by decide) (by decide) q13, setF_up, nar_1, setF_ne (by decide), thr_f (by decide), thr_f (by decide), nI_clamp (by omega)]
        unfold hz
        rw [if_pos (h01 q hq)]
        rfl
end NEXT
