section READS
variable {O : qOb9} {r n E N : Nat} {S : qS}
theorem ref_node (h : Ref O r) (hF : Face r S E N) (a w : Int32) : G_XModel_node O n r a w S = cond (inN a N && (decide (0 ≤ w) && decide (w ≤ 3))) (some (S.1 r (w.toNatClampNeg + 3) a.toNatClampNeg, thr S r 0)) (some (0, thr S r 1)) := by
  have h0 := Face.thr (x := 0) hF
  have hN := hF.2.2.1
  have h22 : G_XModel_node_22 O n r (thr S r 0) = some (0, thr S r 1) := by
    unfold G_XModel_node_22
    rw [rk h, face_fail h, yC_some, thr_thr]
  unfold G_XModel_node G_XModel_node_75
  rw [rP0 h, rk h, face_isNode h h0, yC_some, bN_if]
  cases ha : inN a N with
  | false => exact h22
  | true =>
    show yC _ _ = cond (decide (0 ≤ w) && decide (w ≤ 3)) _ _
    rw [ref_within, yC_some, bN_if]
    cases hw : (decide (0 ≤ w) && decide (w ≤ 3)) with
    | false => exact h22
    | true =>
      obtain ⟨m, hm, rfl⟩ := (inN_iff (by omega)).mp ha
      rw [Bool.and_eq_true, decide_eq_true_iff, decide_eq_true_iff] at hw
      obtain ⟨k, hk, rfl⟩ := nI_of (Int32.not_lt.mpr hw.1)
      have k3 : k ≤ 3 := (nI_leI (b := 3) hk (by decide)).mp hw.2
      have m0 : m < 6400 := by omega
      have m3 : m < refN 3 := m0
      have m4 : m < refN 4 := m0
      have m5 : m < refN 5 := m0
      have m6 : m < refN 6 := m0
      show (if nI k = 0 then _ else _) = some (S.1 r ((nI k).toNatClampNeg + 3) (nI m).toNatClampNeg, thr S r 0)
      rw [nI_clamp hk, nI_clamp (by omega)]
      rcases (show k = 0 ∨ k = 1 ∨ k = 2 ∨ k = 3 by omega) with q | q | q | q <;> subst q
      · rw [if_pos (by decide), rA h (by decide), rl h (by decide) (by decide) m3, thr_f (by decide)]
      · rw [if_neg (by decide), if_pos (by decide), rA h (by decide), rl h (by decide) (by decide) m4, thr_f (by decide)]
      · rw [if_neg (by decide), if_neg (by decide), if_pos (by decide), rA h (by decide), rl h (by decide) (by decide) m5, thr_f (by decide)]
      · rw [if_neg (by decide), if_neg (by decide), if_neg (by decide), rA h (by decide), rl h (by decide) (by decide) m6, thr_f (by decide)]
theorem ref_differs (h : Ref O r) : G_XModel_differs O n r S = if S.1 r 31 0 = 0 then some (0, thr S r 1) else some (S.1 r 34 0, thr S r 0) := by
  unfold G_XModel_differs G_XModel_differs_24
  rw [rP0 h, rI h (by decide), thr_f (by decide)]
  by_cases q : S.1 r 31 0 = 0
  · rw [if_pos q, if_pos q, rk h, face_fail h, yC_some, thr_thr]
  · rw [if_neg q, if_neg q, rI h (by decide), thr_f (by decide)]
theorem ref_witness (h : Ref O r) {W : Nat} (hW : S.1 r 35 0 = nI W) (hW16 : W ≤ 16) (e : Int32) : G_XModel_witness O n r e S = if S.1 r 31 0 = 0 then some (0, thr S r 1) else if e = -1 then some (S.1 r 33 0, thr S r 0) else cond (inN e W) (some (S.1 r 32 e.toNatClampNeg, thr S r 0)) (some (0, thr S r 2)) := by
  unfold G_XModel_witness G_XModel_witness_56
  rw [rP0 h, rI h (by decide), thr_f (by decide)]
  by_cases q : S.1 r 31 0 = 0
  · rw [if_pos q, if_pos q, rk h, face_fail h, yC_some, thr_thr]
  · rw [if_neg q, if_neg q]
    by_cases q1 : e = -1
    · rw [if_pos q1, if_pos q1, rI h (by decide), thr_f (by decide)]
    · rw [if_neg q1, if_neg q1, rI h (by decide), thr_f (by decide), hW, ref_within, yC_some, bN_if]
      show cond (inN e W) _ _ = _
      cases hq : inN e W with
      | false =>
        show hk 0 O r _ = some (0, thr S r 2)
        rw [rk h, face_fail h, yC_some, thr_thr]
      | true =>
        obtain ⟨m, hm, rfl⟩ := (inN_iff (by omega)).mp hq
        have m32 : m < refN 32 := by show m < 16; omega
        simp only [cond_true]
        rw [rA h (by decide), rl h (by decide) (by decide) m32, thr_f (by decide), nI_clamp (by omega)]
end READS
