section INV
variable {O : qOb9} {r n E N A : Nat} {S : qS}
theorem FaceA.thr {x : Int32} (h : FaceA r S E N A) : FaceA r (thr S r x) E N A := by
  obtain ⟨f1, f2, f3, f4, f5, f6⟩ := h
  refine ⟨Face.thr f1, ?_, f3, f4, ?_, ?_⟩
  · rw [thr_f (by decide)]; exact f2
  · intro m hm
    rw [thr_f (by decide), thr_f (by decide), thr_f (by decide)]
    exact f5 m hm
  · intro m
    rw [thr_f (by decide)]
    exact f6 m
theorem fH_thr {x a : Int32} : fH (thr S r x) r a = fH S r a := by
  unfold fH
  rw [thr_f (by decide), thr_f (by decide), thr_f (by decide), thr_f (by decide)]
theorem ref_invariant (h : Ref O r) (hn : 7000 ≤ n) (hF : FaceA r S E N A) {I : Nat} (hI : S.1 r 10 0 = nI I) (hI8 : I ≤ 8) (x : Int32) :
    (¬ inN x N = true → G_XModel_invariant O n r x S = some (0, thr S r 1)) ∧
    (inN x N = true → fW S r x = true → G_XModel_invariant O n r x S = some (0, thr S r 2)) ∧
    (inN x N = true → fW S r x = false → ∃ D, (∀ m, D m = 0 ∨ D m = 1) ∧
      (fH S r x = true → G_XModel_invariant O n r x S = some (0, thr (setF (thr S r 0) r 21 D) r 2)) ∧
      (fH S r x = false → I = 8 → G_XModel_invariant O n r x S = some (0, thr (setF (thr S r 0) r 21 D) r 3)) ∧
      (fH S r x = false → I < 8 → G_XModel_invariant O n r x S = some (nI I, setF (setF (setF (thr S r 0) r 21 D) r 16 (upd1 (S.1 r 16) I x)) r 10 (upd1 (S.1 r 10) 0 (nI (I + 1)))))) := by
  have h0 := FaceA.thr (x := 0) hF
  have h35 : ∀ T : qS, G_XModel_invariant_35 O n r T = some (0, thr T r 2) := by
    intro T
    unfold G_XModel_invariant_35
    rw [rk h, face_fail h, yC_some]
  unfold G_XModel_invariant
  rw [rP0 h, rk h, face_isNode h h0.1, yC_some, bN_if]
  cases hx : inN x N with
  | false =>
    refine ⟨fun _ => ?_, fun q => (by cases q), fun q => (by cases q)⟩
    simp only [cond_false]
    rw [rk h, face_fail h, yC_some, thr_thr]
  | true =>
    simp only [cond_true]
    rw [rk h, face_isWord h hn h0.1 hx, yC_some, bN_if, fW_thr]
    cases hw : fW S r x with
    | true =>
      refine ⟨fun q => absurd trivial q, fun _ _ => ?_, fun _ q => (by cases q)⟩
      simp only [cond_true]
      rw [h35, thr_thr]
    | false =>
      simp only [cond_false]
      refine ⟨fun q => absurd trivial q, fun _ q => (by cases q), fun _ _ => ?_⟩
      obtain ⟨D, hD, eD⟩ := face_hasFetch (O := O) (n := n) h hn h0 hx
      rw [fH_thr] at eD
      refine ⟨D, hD, ?_⟩
      rw [rk h, eD, yC_some, bN_if]
      cases hh : fH S r x with
      | true => exact ⟨fun _ => h35 _, fun q => (by cases q), fun q => (by cases q)⟩
      | false =>
        simp only [cond_false]
        have e10 : (setF (thr S r 0) r 21 D).1 r 10 = S.1 r 10 := by rw [setF_ne (by decide), thr_f (by decide)]
        have e16 : (setF (thr S r 0) r 21 D).1 r 16 = S.1 r 16 := by rw [setF_ne (by decide), thr_f (by decide)]
        generalize setF (thr S r 0) r 21 D = T at e10 e16 ⊢
        refine ⟨fun q => (by cases q), fun _ q => ?_, fun _ q => ?_⟩
        · rw [rI h (by decide), e10, hI, if_pos (by rw [q]; rfl), rk h, face_fail h, yC_some]
        · have ne : ¬ nI I = 8 := fun z => by
            have := (nI_eq (a := I) (b := 8) (by omega) (by decide)).mp z
            omega
          have i16 : I < refN 16 := q
          rw [rI h (by decide), e10, hI, if_neg ne, rA h (by decide), rI h (by decide), e10, hI, rw' h (by decide) (by decide) i16, setF_up, e16]
          rw [rI h (by decide), setF_ne (by decide), e10, hI, rP h (by decide), nI_1, setF_up, setF_ne (by decide), e10]
          rw [rI h (by decide), setF_same]
          rw [if_pos rfl, nI_pred]
          rfl
end INV
