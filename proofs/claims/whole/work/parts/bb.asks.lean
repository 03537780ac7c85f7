/-! RUN AND KEPT ON BOTH SIDES -/
section ASKS
variable {O : qOb9} {x c u p f w q s l r n E N A I : Nat} {S T : qS} {eS : Nat → Bool}
theorem stp_T (h : T.1 r = S.1 r) : stp T r = stp S r := by
  funext fc st e
  unfold stp rSb
  rw [h]
theorem st0R_T (h : T.1 r = S.1 r) : st0R T r = st0R S r := by
  funext e
  unfold st0R rCd
  rw [h]
theorem oneR_T (h : T.1 r = S.1 r) (d : Nat) : oneR T r d = oneR S r d := by
  unfold oneR
  rw [stp_T h, st0R_T h]
theorem othR_T (h : T.1 r = S.1 r) (d : Nat) : othR T r d = othR S r d := by
  funext e
  unfold othR
  rw [stp_T h, st0R_T h]
  unfold rSb
  rw [h]
theorem ivR_T (h : T.1 r = S.1 r) : ivR T r = ivR S r := by
  funext k
  unfold ivR rCd
  rw [h]
theorem snR_T (h : T.1 r = S.1 r) : snR T r E = snR S r E := by
  funext e
  unfold snR
  rw [h]
theorem kpR_T (h : T.1 r = S.1 r) (k : Nat) : kpR T r k = kpR S r k := by
  unfold kpR
  rw [stp_T h, st0R_T h]
  unfold rSb
  rw [h]
/-- after a question both sides hold the same -/
theorem Jn_asked {S1 S2 : qS} {A' : Nat} (hJ : Jn O x c u p f w q s l r E N A I eS S) (o1 : onl (ZA u p w q s l) S S1) (m3 : ∀ m, S1.1 p 3 m = 0 ∨ S1.1 p 3 m = 1) (o2 : rOnly r S1 S2) (sF : SameF r N S1 S2) (hR : RI r E N A' I S2 eS) (hu : OutJ u r S2) : Jn O x c u p f w q s l r E N A' I eS S2 := by
  obtain ⟨j1, j2, j3, j4, j5, j6, j7, j8⟩ := hJ
  obtain ⟨nc, nu, np, nf, nw, nq, ns, nl⟩ := Ref_ne j1 j2
  have NE := fun _ : Unit => ClO_ne j1
  have e1 : ∀ {o : Nat}, o ≠ w → o ≠ p → o ≠ q → o ≠ u → o ≠ s → o ≠ l → S1.1 o = S.1 o := fun {o} a1 a2 a3 a4 a5 a6 => (o1 o (by rintro (z | z | z | z | z | z); exact a1 z; exact a2 z; exact a3 z; exact a4 z; exact a5 z; exact a6 z)).1
  have ec : S2.1 c = S.1 c := by rw [o2.2 c nc, e1 (NE ()).1.2.1 (NE ()).1.1 (NE ()).1.2.2.2.1 (NE ()).1.2.2.2.2.2.2 (NE ()).1.2.2.2.2.1 (NE ()).1.2.2.2.2.2.1]
  have ef : S2.1 f = S.1 f := by rw [o2.2 f nf, e1 (fun z => (NE ()).2.2.1.2.2.2.2 z.symm) (fun z => (NE ()).2.1.2.1 z.symm) (NE ()).2.2.2.1.1 (NE ()).2.2.2.1.2.2.2 (NE ()).2.2.2.1.2.1 (NE ()).2.2.2.1.2.2.1]
  have er : S1.1 r = S.1 r := e1 (fun z => nw z.symm) (fun z => np z.symm) (fun z => nq z.symm) (fun z => nu z.symm) (fun z => ns z.symm) (fun z => nl z.symm)
  have ep : S2.1 p = S1.1 p := o2.2 p np
  have rj : ∀ j, (j = 11 ∨ j = 12 ∨ j = 13 ∨ j = 14 ∨ j = 15 ∨ j = 16) → S2.1 r j = S.1 r j := fun j hj => by rw [sF.1 j (by omega), er]
  refine ⟨j1, j2, hR, CoI_same j4 ec ef, ⟨fun m hm => ?_, ?_, ?_, ?_, ?_⟩, ⟨by rw [ep]; exact m3, by rw [ec]; exact j6.2⟩, by rw [ec, rj 15 (by omega)]; exact j7, hu⟩
  · obtain ⟨g1, g2, g3, g4⟩ := sF.2 m hm
    rw [g1, g2, g3, g4, er, ef]
    exact j5.1 m hm
  · rw [rj 11 (by omega), ec]; exact j5.2.1
  · rw [rj 11 (by omega), rj 12 (by omega), rj 13 (by omega), ec]; exact j5.2.2.1
  · rw [rj 14 (by omega), rj 15 (by omega), ec]; exact j5.2.2.2.1
  · rw [rj 16 (by omega), ec]; exact j5.2.2.2.2
theorem J_run (hJ : Jn O x c u p f w q s l r E N A I eS S) (hn : 3000000 ≤ n) (d : Int32) : CallOk (G_X_run O n x d S) (fun T => G_XModel_run O n r d T) [("java/lang/IllegalArgumentException", 1)] r (JE O x c u p f w q s l r) := by
  have hO := hJ.1
  have h := hJ.2.1
  obtain ⟨nc, nu, np, nf, nw, nq, ns, nl⟩ := Ref_ne hO h
  have h1 := (ClO_f hO).1
  have h4 : oC O u = 4 + 1 := hO.1.2.2.1
  have h6 : oC O p = 6 + 1 := hO.1.2.2.2.1
  have o1 : oR O x 0 = c := hO.2.1.1
  have o2 : oR O x 1 = u := hO.2.1.2.1
  have o3 : oR O x 2 = p := hO.2.1.2.2.1
  have bad : ¬ (decide (0 ≤ d) && decide (d ≤ 8)) = true → CallOk (some (.inr xIAE, S)) (fun T => G_XModel_run O n r d T) [("java/lang/IllegalArgumentException", 1)] r (JE O x c u p f w q s l r) := fun z => by
    refine J_refuse hJ (e := xIAE) (t := 1) rfl (by decide) ?_
    show G_XModel_run O n r d S = _
    unfold G_XModel_run
    rw [rP0 h, ref_within, yC_some, bN_if, (Bool.not_eq_true _).mp z, cond_false, rk h, face_fail h, yC_some, thr_thr]
  unfold G_X_run G_X_run_10
  by_cases d0 : d < 0
  · rw [if_pos d0]
    refine bad (fun z => ?_)
    rw [Bool.and_eq_true, decide_eq_true_iff] at z
    exact absurd d0 (Int32.not_lt.mpr z.1)
  · rw [if_neg d0]
    obtain ⟨dn, hdn, rfl⟩ := nI_of d0
    by_cases d8 : dn ≤ 8
    · obtain ⟨S0, S1, y, dw, dt, a1, a2, a3, a4, a5, a6, a7, a8, a9⟩ := cls_runQ (n := n) hO (by omega) hJ.2.2.2.1 hJ.2.2.2.2.2.1.1 d8
      have er : S1.1 r = S.1 r := (a3 r (by rintro (z | z | z | z | z | z); exact nw z.symm; exact np z.symm; exact nq z.symm; exact nu z.symm; exact ns z.symm; exact nl z.symm)).1
      obtain ⟨y', S2, dw', dt', A', fx, b1, b2, b3, b4, b5, b6, b7, _, _, b8, b9, b10, b11⟩ := ref_run (O := O) (n := n) h hn (RI_eq er hJ.2.2.1) d8
      rw [ivR_T er, snR_T er, oneR_T er, othR_T er] at b11
      obtain ⟨c1, c2, c3, c4⟩ := a9 y' dw' dt' (S2.1 r 32) fx (S2.1 r 34 0) (Outc_run hJ.2.2.1 hJ.2.2.2.1 hJ.2.2.2.2.1 b11)
      rw [if_pos (show nI dn ≤ (8 : Int32) from nI_le (b := 8) d8 (by decide)), uO h1 (by decide), o3, uO h1 (by decide), o1, uO h1 (by decide), o2, uk h6, a1, yV_some, uO h1 (by decide), o3, uO h1 (by decide), o2, uk h6, a2, yV_some, uO h1 (by decide), o2, uI h4 (by decide), a5]
      have eu : S2.1 u = S1.1 u := b2.2 u nu
      refine ⟨_, S1, y', S2, rfl, b1, ⟨E, N, A', I, eS, Jn_asked hJ a3 a4 b2 b4 b5 ?_⟩, Or.inl ⟨by rw [c1], b3⟩⟩
      unfold OutJ
      rw [eu, a5, a6, a7, a8, b6, b7, c1, c2, c3]
      refine ⟨rfl, rfl, ?_⟩
      by_cases y0 : y' = 0
      · obtain ⟨d1, d2, d3⟩ := c4 y0
        exact Or.inr ⟨y0, by rw [b8, if_pos y0], E, hJ.2.2.2.1.2.1, rfl, b9 y0, d1, d2.trans b10.symm, d3⟩
      · exact Or.inl ⟨y0, by rw [b8, if_neg y0]⟩
    · rw [if_neg (show ¬ nI dn ≤ (8 : Int32) from nI_ge (a := 8) (b := dn) (by omega) hdn)]
      refine bad (fun z => ?_)
      rw [Bool.and_eq_true, decide_eq_true_iff, decide_eq_true_iff] at z
      have := (nI_leI (a := dn) (b := 8) hdn (by decide)).mp z.2
      omega
theorem J_kept (hJ : Jn O x c u p f w q s l r E N A I eS S) (hn : 3000000 ≤ n) (k : Int32) : CallOk (G_X_kept O n x k S) (fun T => G_XModel_kept O n r k T) [("java/lang/IndexOutOfBoundsException", 1)] r (JE O x c u p f w q s l r) := by
  have hO := hJ.1
  have h := hJ.2.1
  have hI8 := hJ.2.2.2.1.2.2.2.2.2.2.2.2.1
  obtain ⟨nc, nu, np, nf, nw, nq, ns, nl⟩ := Ref_ne hO h
  obtain ⟨h1, h2, o1, _, _⟩ := ClO_f hO
  have h4 : oC O u = 4 + 1 := hO.1.2.2.1
  have h6 : oC O p = 6 + 1 := hO.1.2.2.2.1
  have o2 : oR O x 1 = u := hO.2.1.2.1
  have o3 : oR O x 2 = p := hO.2.1.2.2.1
  have bad : inN k I = false → CallOk (some (.inr xIOB, S)) (fun T => G_XModel_kept O n r k T) [("java/lang/IndexOutOfBoundsException", 1)] r (JE O x c u p f w q s l r) := fun z => by
    refine J_refuse hJ (e := xIOB) (t := 1) rfl (by decide) ?_
    show G_XModel_kept O n r k S = _
    unfold G_XModel_kept
    unfold inN at z
    rw [rP0 h, rI h (by decide), thr_f (by decide), hJ.2.2.1.2.2.2.2.2.2.2.2.2.1, ref_within, yC_some, bN_if, z, cond_false, rk h, face_fail h, yC_some, thr_thr]
  unfold G_X_kept G_X_kept_15
  by_cases d0 : k < 0
  · rw [if_pos d0]
    refine bad ?_
    cases z : inN k I with
    | false => rfl
    | true => exact absurd d0 (inN_nn z)
  · obtain ⟨kn, hkn, rfl⟩ := nI_of d0
    rw [if_neg d0, uO h1 (by decide), o1, uI h2 (by decide), hJ.2.2.2.1.2.2.2.2.2.2.2.1]
    by_cases lt : kn < I
    · obtain ⟨S0, S1, y, dw, dt, a1, a2, a3, a4, a5, a6, a7, a8, a9⟩ := cls_keptQ (n := n) hO (by omega) hJ.2.2.2.1 hJ.2.2.2.2.2.1.1 lt
      have er : S1.1 r = S.1 r := (a3 r (by rintro (z | z | z | z | z | z); exact nw z.symm; exact np z.symm; exact nq z.symm; exact nu z.symm; exact ns z.symm; exact nl z.symm)).1
      obtain ⟨y', S2, dw', dt', A', dx, b1, b2, b3, b4, b5, b6, b7, _, _, b8, b9, b10, b11⟩ := ref_kept (O := O) (n := n) h hn (RI_eq er hJ.2.2.1) lt
      rw [ivR_T er, kpR_T er] at b11
      obtain ⟨c1, c2, c3, c4⟩ := a9 y' dw' dt' (S2.1 r 32) (S2.1 r 33 0) dx (Outc_kept hJ.2.2.1 hJ.2.2.2.1 hJ.2.2.2.2.1 lt b11)
      rw [if_pos ((nI_ltI hkn (by omega)).mpr lt), uO h1 (by decide), o3, uO h1 (by decide), o1, uO h1 (by decide), o2, uk h6, a1, yV_some, uO h1 (by decide), o3, uO h1 (by decide), o2, uk h6, a2, yV_some, uO h1 (by decide), o2, uI h4 (by decide), a5]
      have eu : S2.1 u = S1.1 u := b2.2 u nu
      refine ⟨_, S1, y', S2, rfl, b1, ⟨E, N, A', I, eS, Jn_asked hJ a3 a4 b2 b4 b5 ?_⟩, Or.inl ⟨by rw [c1], b3⟩⟩
      unfold OutJ
      rw [eu, a5, a6, a7, a8, b6, b7, c1, c2, c3]
      refine ⟨rfl, rfl, ?_⟩
      by_cases y0 : y' = 0
      · obtain ⟨d1, d2, d3⟩ := c4 y0
        exact Or.inr ⟨y0, by rw [b8, if_pos y0], E, hJ.2.2.2.1.2.1, rfl, b9 y0, d1, d2, d3.trans b10.symm⟩
      · exact Or.inl ⟨y0, by rw [b8, if_neg y0]⟩
    · rw [if_neg (fun z => lt ((nI_ltI hkn (by omega)).mp z))]
      refine bad ?_
      cases z : inN (nI kn) I with
      | false => rfl
      | true =>
        obtain ⟨m', hm', em⟩ := (inN_iff (by omega)).mp z
        have := (nI_eq (by omega) (by omega)).mp em
        omega
end ASKS
