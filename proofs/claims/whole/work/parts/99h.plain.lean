section PLAIN
variable {O : qOb9} {r n E N A : Nat} {S : qS}
/-- is FETCH in this node? -/
def fH (S : qS) (r : Nat) (a : Int32) : Bool := hf (S.1 r 3) (S.1 r 4) (S.1 r 5) (S.1 r 6) a.toNatClampNeg
theorem face_hasFetch (h : Ref O r) (hn : 7000 ≤ n) (hF : FaceA r S E N A) {x : Int32} (hx : inN x N = true) : ∃ D, (∀ m, D m = 0 ∨ D m = 1) ∧ G_XModel_hasFetch O n r x S = some (bN (fH S r x), setF S r 21 D) := by
  have hN := hF.1.2.2.1
  obtain ⟨m, hm, rfl⟩ := (inN_iff (by omega)).mp hx
  unfold fH
  rw [nI_clamp (by omega)]
  exact ref_hasFetch h hn hF hm
theorem ref_plain (h : Ref O r) (hn : 7000 ≤ n) (hF : FaceA r S E N A) (hE : Els r S E N) (h01 : ∀ e, e < E → S.1 r 15 e = 0 ∨ S.1 r 15 e = 1) (e x : Int32) :
    (¬ (inN e E && inN x N) = true → G_XModel_plain O n r e x S = some (0, thr S r 1)) ∧
    ((inN e E && inN x N) = true → ¬ (fW S r x == eW S r e) = true → G_XModel_plain O n r e x S = some (0, thr S r 2)) ∧
    ((inN e E && inN x N) = true → (fW S r x == eW S r e) = true → ∃ D, (∀ m, D m = 0 ∨ D m = 1) ∧
      G_XModel_plain O n r e x S = cond (!fH S r x) (some (S.1 r 15 e.toNatClampNeg, setF (setF (thr (setF S r 21 D) r 0) r 14 (upd1 (S.1 r 14) e.toNatClampNeg x)) r 15 (upd1 (S.1 r 15) e.toNatClampNeg 1))) (some (0, thr (setF S r 21 D) r 2))) := by
  have h43 : ∀ (t : Int32) (T : qS), ¬ t ≤ 0 → G_XModel_plain_43 O n r e x r t T = some (0, thr T r t) := by
    intro t T ht
    unfold G_XModel_plain_43
    rw [rP0 h, rI h (by decide), thr_0, if_neg ht]
  unfold G_XModel_plain G_XModel_plain_17 G_XModel_plain_42
  rw [rk h, ref_isElement h hF.1.2.1, yC_some, bN_if]
  cases he : inN e E with
  | false => exact ⟨fun _ => h43 1 S (by decide), fun q => (by cases q), fun q => (by cases q)⟩
  | true =>
    simp only [cond_true, Bool.true_and]
    rw [rk h, face_isNode h hF.1, yC_some, bN_if]
    cases hx : inN x N with
    | false => exact ⟨fun _ => h43 1 S (by decide), fun q => (by cases q), fun q => (by cases q)⟩
    | true =>
      simp only [cond_true]
      rw [rk h, ref_isOfSort h hn hF.1 hE he hx, yC_some, bN_if]
      cases hs : (fW S r x == eW S r e) with
      | false => exact ⟨fun q => absurd trivial q, fun _ _ => h43 2 S (by decide), fun _ q => (by cases q)⟩
      | true =>
        simp only [cond_true]
        refine ⟨fun q => absurd trivial q, fun _ q => absurd trivial q, fun _ _ => ?_⟩
        obtain ⟨D, hD, eD⟩ := face_hasFetch (O := O) (n := n) h hn hF hx
        refine ⟨D, hD, ?_⟩
        rw [rk h, eD, yC_some, bN_if]
        cases hh : fH S r x with
        | true => exact h43 2 _ (by decide)
        | false =>
          simp only [Bool.not_false, cond_true, cond_false]
          have h16 := hF.1.2.2.2.1
          obtain ⟨q, hq, rfl⟩ := (inN_iff (by omega)).mp he
          have q15 : q < refN 15 := by show q < 16; omega
          have q14 : q < refN 14 := by show q < 16; omega
          unfold G_XModel_plain_43
          rw [rP0 h, rI h (by decide), thr_0, if_pos (by decide), rA h (by decide), rl h (by decide) (by decide) q15, rA h (by decide), rw' h (by decide) (by decide) q14, setF_up, rA h (by decide), rw' h (by decide) (by decide) q15, setF_up, nar_1, setF_ne (by decide), thr_f (by decide), thr_f (by decide), setF_ne (by decide), setF_ne (by decide), nI_clamp (by omega)]
          unfold hz
          rw [if_pos (h01 q hq)]
          rfl
end PLAIN
