/-! READS ON BOTH SIDES -/
section READS
variable {O : qOb9} {x c u p f w q s l r n E N A I : Nat} {S : qS} {eS : Nat → Bool}
theorem J_node (hJ : Jn O x c u p f w q s l r E N A I eS S) (a b : Int32) : CallOk (G_X_node O n x a b S) (fun T => G_XModel_node O n r a b T) [("java/lang/IndexOutOfBoundsException", 1)] r (JE O x c u p f w q s l r) := by
  have hO := hJ.1
  have h := hJ.2.1
  have hF := hJ.2.2.1.1.1
  have hC := hJ.2.2.2.1.1
  have hL := hJ.2.2.2.2.1
  have hN := hC.2.2.1
  have hN31 := (CS_big hC).1
  obtain ⟨h1, h2, o1, o4, h3⟩ := ClO_f hO
  have r0 := ref_node (O := O) (n := n) h hF a b
  unfold G_X_node
  rw [uk h1, cls_reqNode hO hC]
  cases ha : inN a N with
  | false => exact J_refuse hJ (e := xIOB) (t := 1) rfl (by decide) (by rw [r0, ha]; rfl)
  | true =>
    obtain ⟨m, hm, rfl⟩ := (inN_iff hN31).mp ha
    obtain ⟨g1, g2, g3, g4⟩ := hL.1 m hm
    have m0 : m < oN O f 0 := by rw [hC.1.2.1 0 (by omega)]; omega
    have m1 : m < oN O f 1 := by rw [hC.1.2.1 1 (by omega)]; omega
    have m2 : m < oN O f 2 := by rw [hC.1.2.1 2 (by omega)]; omega
    have m3 : m < oN O f 3 := by rw [hC.1.2.1 3 (by omega)]; omega
    have cm : (nI m).toNatClampNeg = m := nI_clamp (by omega)
    rw [cond_true, tW_inl]
    rw [ha, cm] at r0
    by_cases b0 : b = 0
    · subst b0
      rw [if_pos rfl, uO h1 (by decide), o1, uO h2 (by decide), o4, uA h3 (by decide), ul h3 (by decide) m0 (by omega)]
      exact ⟨_, S, S.1 r 3 m, thr S r 0, rfl, r0, ⟨E, N, A, I, eS, Jn_thr hJ⟩, Or.inl ⟨by rw [g1], thr_0⟩⟩
    rw [if_neg b0]
    by_cases b1 : b = 1
    · subst b1
      rw [if_pos rfl, uO h1 (by decide), o1, uO h2 (by decide), o4, uA h3 (by decide), ul h3 (by decide) m1 (by omega)]
      exact ⟨_, S, S.1 r 4 m, thr S r 0, rfl, r0, ⟨E, N, A, I, eS, Jn_thr hJ⟩, Or.inl ⟨by rw [g2], thr_0⟩⟩
    rw [if_neg b1]
    by_cases b2 : b = 2
    · subst b2
      rw [if_pos rfl, uO h1 (by decide), o1, uO h2 (by decide), o4, uA h3 (by decide), ul h3 (by decide) m2 (by omega)]
      exact ⟨_, S, S.1 r 5 m, thr S r 0, rfl, r0, ⟨E, N, A, I, eS, Jn_thr hJ⟩, Or.inl ⟨by rw [g3], thr_0⟩⟩
    rw [if_neg b2]
    by_cases b3 : b = 3
    · subst b3
      rw [if_pos rfl, uO h1 (by decide), o1, uO h2 (by decide), o4, uA h3 (by decide), ul h3 (by decide) m3 (by omega)]
      exact ⟨_, S, S.1 r 6 m, thr S r 0, rfl, r0, ⟨E, N, A, I, eS, Jn_thr hJ⟩, Or.inl ⟨by rw [g4], thr_0⟩⟩
    rw [if_neg b3]
    have no : (decide (0 ≤ b) && decide (b ≤ 3)) = false := by
      cases z : (decide (0 ≤ b) && decide (b ≤ 3)) with
      | false => rfl
      | true =>
        exfalso
        rw [Bool.and_eq_true, decide_eq_true_iff, decide_eq_true_iff] at z
        obtain ⟨bn, hbn, rfl⟩ := nI_of (Int32.not_lt.mpr z.1)
        have := (nI_leI (a := bn) (b := 3) hbn (by decide)).mp z.2
        rcases (show bn = 0 ∨ bn = 1 ∨ bn = 2 ∨ bn = 3 by omega) with y | y | y | y
        · exact b0 (by rw [y]; rfl)
        · exact b1 (by rw [y]; rfl)
        · exact b2 (by rw [y]; rfl)
        · exact b3 (by rw [y]; rfl)
    exact J_refuse hJ (e := xIOB) (t := 1) rfl (by decide) (by rw [r0, no]; rfl)
theorem J_count (hJ : Jn O x c u p f w q s l r E N A I eS S) (hn : 7000 ≤ n) (b : Int32) : ∃ v S2, G_X_count O n x b S = some (v, S) ∧ G_XModel_count O n r b S = some (v, S2) ∧ JE O x c u p f w q s l r S2 := by
  have hJ' := hJ
  obtain ⟨j1, j2, j3, j4, j5, j6, j7, j8⟩ := hJ
  have r0 := ref_count (O := O) (n := n) j2 hn j3.1.1 b
  obtain ⟨h1, h2, o1, o4, h3⟩ := ClO_f j1
  have h4 : oC O u = 4 + 1 := j1.1.2.2.1
  have o2 : oR O x 1 = u := j1.2.1.2.1
  refine ⟨_, thr S r 0, ?_, r0, E, N, A, I, eS, Jn_thr hJ'⟩
  unfold G_X_count
  by_cases b0 : b = 0
  · rw [if_pos b0, if_pos b0, uO h1 (by decide), o1, uO h2 (by decide), o4, uI h3 (by decide), j4.1.2.1]
  rw [if_neg b0, if_neg b0]
  by_cases b1 : b = 1
  · rw [if_pos b1, if_pos b1, uO h1 (by decide), o1, uI h2 (by decide), j4.2.2.1]
  rw [if_neg b1, if_neg b1]
  by_cases b2 : b = 2
  · rw [if_pos b2, if_pos b2, uO h1 (by decide), o1, uI h2 (by decide), j7]
  rw [if_neg b2, if_neg b2]
  by_cases b3 : b = 3
  · rw [if_pos b3, if_pos b3, uO h1 (by decide), o1, uI h2 (by decide), j4.2.2.2.2.2.2.2.1, j3.2.2.2.2.2.2.2.2.2.1]
  rw [if_neg b3, if_neg b3]
  by_cases b4 : b = 4
  · rw [if_pos b4, if_pos b4, uO h1 (by decide), o2, uI h4 (by decide), j8.1]
  rw [if_neg b4, if_neg b4]
  by_cases b5 : b = 5
  · rw [if_pos b5, if_pos b5, uO h1 (by decide), o2, uI h4 (by decide), j8.2.1]
  rw [if_neg b5, if_neg b5]
theorem ref_witness0 (h : Ref O r) {e : Int32} (z : S.1 r 31 0 = 0) : G_XModel_witness O n r e S = some (0, thr S r 1) := by
  unfold G_XModel_witness
  rw [rP0 h, rI h (by decide), thr_f (by decide), if_pos z, rk h, face_fail h, yC_some, thr_thr]
theorem cls_reqFail (hO : ClO O x c u p f w q s l) : G_X_requireFailure O n x S = if S.1 u 1 0 = 0 then some (.inl (), S) else some (.inr xISE, S) := by
  have h1 := (ClO_f hO).1
  have h4 : oC O u = 4 + 1 := hO.1.2.2.1
  have o2 : oR O x 1 = u := hO.2.1.2.1
  unfold G_X_requireFailure
  rw [uO h1 (by decide), o2, uI h4 (by decide)]
theorem J_differs (hJ : Jn O x c u p f w q s l r E N A I eS S) : CallOk (G_X_differs O n x S) (fun T => G_XModel_differs O n r T) [("java/lang/IllegalStateException", 1)] r (JE O x c u p f w q s l r) := by
  have hO := hJ.1
  have h := hJ.2.1
  have h1 := (ClO_f hO).1
  have h4 : oC O u = 4 + 1 := hO.1.2.2.1
  have o2 : oR O x 1 = u := hO.2.1.2.1
  have r0 := ref_differs (O := O) (n := n) (S := S) h
  unfold G_X_differs
  rw [uk h1, cls_reqFail hO]
  rcases hJ.2.2.2.2.2.2.2.2.2 with ⟨z1, z2⟩ | ⟨z1, z2, W, hW, y1, y2, y3, y4, y5⟩
  · rw [if_neg z1, tW_inr]
    exact J_refuse hJ (e := xISE) (t := 1) rfl (by decide) (by rw [r0, if_pos z2])
  · rw [if_pos z1, tW_inl, uO h1 (by decide), o2, uI h4 (by decide)]
    rw [if_neg (by rw [z2]; decide)] at r0
    exact ⟨_, S, S.1 r 34 0, thr S r 0, rfl, r0, ⟨E, N, A, I, eS, Jn_thr hJ⟩, Or.inl ⟨by rw [y5], thr_0⟩⟩
theorem J_witness (hJ : Jn O x c u p f w q s l r E N A I eS S) (e : Int32) : CallOk (G_X_witness O n x e S) (fun T => G_XModel_witness O n r e T) [("java/lang/IllegalStateException", 1), ("java/lang/IndexOutOfBoundsException", 2)] r (JE O x c u p f w q s l r) := by
  have hO := hJ.1
  have h := hJ.2.1
  have h1 := (ClO_f hO).1
  have h4 : oC O u = 4 + 1 := hO.1.2.2.1
  have o2 : oR O x 1 = u := hO.2.1.2.1
  have l6 := hO.2.2.2.1.2.2.2.2.2
  unfold G_X_witness G_X_witness_32
  rw [uk h1, cls_reqFail hO]
  rcases hJ.2.2.2.2.2.2.2.2.2 with ⟨z1, z2⟩ | ⟨z1, z2, W, hW, y1, y2, y3, y4, y5⟩
  · rw [if_neg z1, tW_inr]
    exact J_refuse hJ (e := xISE) (t := 1) rfl (by decide) (ref_witness0 h z2)
  · have r0 := ref_witness (O := O) (n := n) h y2 hW e
    rw [if_neg (by rw [z2]; decide)] at r0
    rw [if_pos z1, tW_inl]
    by_cases e1 : e = -1
    · rw [if_pos e1] at r0
      rw [if_pos e1, uO h1 (by decide), o2, uI h4 (by decide)]
      exact ⟨_, S, S.1 r 33 0, thr S r 0, rfl, r0, ⟨E, N, A, I, eS, Jn_thr hJ⟩, Or.inl ⟨by rw [y4], thr_0⟩⟩
    · rw [if_neg e1] at r0
      rw [if_neg e1]
      by_cases e0 : e < 0
      · have : inN e W = false := by
          cases z : inN e W with
          | false => rfl
          | true => exact absurd e0 (inN_nn z)
        rw [this] at r0
        rw [if_pos e0]
        exact J_refuse hJ (e := xIOB) (t := 2) rfl (by decide) r0
      · obtain ⟨en, hen, rfl⟩ := nI_of e0
        rw [if_neg e0, uO h1 (by decide), o2, uI h4 (by decide), y1]
        by_cases lt : en < W
        · have le : en < oN O u 0 := by rw [l6]; omega
          rw [inN_nI (by omega) lt, nI_clamp hen] at r0
          rw [if_pos ((nI_ltI hen (by omega)).mpr lt), uO h1 (by decide), o2, uA h4 (by decide), ul h4 (by decide) le (by omega)]
          exact ⟨_, S, S.1 r 32 en, thr S r 0, rfl, r0, ⟨E, N, A, I, eS, Jn_thr hJ⟩, Or.inl ⟨by rw [y3 en lt], thr_0⟩⟩
        · have : inN (nI en) W = false := by
            cases z : inN (nI en) W with
            | false => rfl
            | true =>
              obtain ⟨m', hm', em⟩ := (inN_iff (by omega)).mp z
              have := (nI_eq (by omega) (by omega)).mp em
              omega
          rw [this] at r0
          rw [if_neg (fun z => lt ((nI_ltI hen (by omega)).mp z))]
          exact J_refuse hJ (e := xIOB) (t := 2) rfl (by decide) r0
end READS
