section TELLS2
variable {O : qOb9} {x c u p f w q s l r n E N A I : Nat} {S : qS} {eS : Nat → Bool}
theorem Jn_21 (hJ : Jn O x c u p f w q s l r E N A I eS S) {D : Nat → Int32} (hD : ∀ m, D m = 0 ∨ D m = 1) {v : Int32} : Jn O x c u p f w q s l r E N A I eS (thr (setF S r 21 D) r v) := by
  have hF := hJ.2.2.1.1
  refine Jn_r hJ (setF_only.trans thr_only) (fun j h0 _ _ _ h21 => by rw [thr_f h0, setF_ne h21]) (by rw [thr_f (by decide), setF_ne (by decide)]; exact hF.2.1) hF.2.2.1 (Or.inl (Nat.le_refl A)) (fun m => by rw [thr_f (by decide), setF_same]; exact hD m)
theorem fH_c (hJ : Jn O x c u p f w q s l r E N A I eS S) {m : Nat} (hm : m < N) : hf (S.1 f 0) (S.1 f 1) (S.1 f 2) (S.1 f 3) m = fH S r (nI m) := by
  obtain ⟨_, _, _, j4, j5, _⟩ := hJ
  have hN31 := (CS_big j4.1).1
  unfold fH
  rw [nI_clamp (by omega)]
  exact (hf_congr (κ' := S.1 r 3) (α' := S.1 r 4) (β' := S.1 r 5) (γ' := S.1 r 6) j4.1.2.2.2.1.2.1 hN31 (fun q hq => j5.1 q hq) m hm).symm
theorem fH_eq {T : qS} (h : T.1 r = S.1 r) {a : Int32} : fH T r a = fH S r a := by
  unfold fH
  rw [h]
theorem J_plain (hJ : Jn O x c u p f w q s l r E N A I eS S) (hn : 7000 ≤ n) (e a : Int32) : CallOk (G_X_plain O n x e a S) (fun T => G_XModel_plain O n r e a T) tb2 r (JE O x c u p f w q s l r) := by
  have hO := hJ.1
  have h := hJ.2.1
  have hR := hJ.2.2.1
  have hI := hJ.2.2.2.1
  obtain ⟨nc, nu, np, nf, _⟩ := Ref_ne hO h
  have NE := fun _ : Unit => ClO_ne hO
  have hC := hI.1
  have hE := hI.2.1
  have hN := hC.2.2.1
  have hN31 := (CS_big hC).1
  obtain ⟨h1, h2, o1, o4, h3⟩ := ClO_f hO
  have lens := hO.2.2.2.1
  have rf := fun (T : qS) (eT : T.1 r = S.1 r) => ref_plain (O := O) (n := n) h hn (RI_eq eT hR).1 (Els_R (RI_eq eT hR)) (fun e _ => by rw [eT]; exact hR.2.2.2.2.2.2.1 e) e a
  have r0 := rf S rfl
  unfold G_X_plain
  rw [uk h1, cls_reqElem hO hI.2.2.1 hE]
  cases he : inN e E with
  | false => exact J_refuse hJ (e := xIOB) (t := 1) rfl (by decide) (r0.1 (by rw [he]; simp))
  | true =>
    rw [cond_true, tW_inl, uk h1, cls_reqNode hO hC]
    cases ha : inN a N with
    | false => exact J_refuse hJ (e := xIOB) (t := 1) rfl (by decide) (r0.1 (by rw [he, ha]; simp))
    | true =>
      obtain ⟨en, hen, rfl⟩ := (inN_iff (by omega)).mp he
      obtain ⟨ma, hma, rfl⟩ := (inN_iff hN31).mp ha
      obtain ⟨m, hm, em, ws, es⟩ := el_sort hJ hen
      have l1 : en < oN O c 1 := by rw [lens.1]; omega
      have l3 : en < oN O c 3 := by rw [lens.2.2.1]; omega
      have hm' : inN (nI m) N = true := inN_nI (by omega) hm
      rw [cond_true, tW_inl, uO h1 (by decide), o1, uA h2 (by decide), ul h2 (by decide) l1 (by omega), em, uk h1, cls_reqSame hO hC, hm', ha, Bool.true_and, Bool.true_and, fW_c hJ hm', fW_c hJ ha, ws, beq_swap]
      cases we : (fW S r (nI ma) == eW S r (nI en)) with
      | false => exact J_refuse hJ (e := xIAE) (t := 2) rfl (by decide) (r0.2.1 (by rw [he, ha]; rfl) (by rw [we]; simp))
      | true =>
        have wa : fW S r (nI ma) = eS en := by rw [eq_of_beq we, ← ws]; exact es
        have wr : wd (S.1 r 3) (S.1 r 5) ma = eS en := by
          rw [← wa]; unfold fW; rw [nI_clamp (by omega)]
        have wc' : cWd S f ma = eS en := by
          have := fW_c hJ ha
          rw [nI_clamp (by omega)] at this
          rw [this]; exact wa
        obtain ⟨D, hD, eD⟩ := cls_reqNoFetch (O := O) (n := n) hO hn hE hC hJ.2.2.2.2.2.1.2 hma
        rw [cond_true, tW_inl, uk h1, eD, fH_c hJ hma]
        have hJ1 := Jn_c5 hJ hD
        have e1r : (setF S c 5 D).1 r = S.1 r := setF_q (fun z => nc z.symm)
        have e1f : (setF S c 5 D).1 f = S.1 f := setF_q (fun z => (NE ()).1.2.2.1 z.symm)
        have hfm := fH_c hJ hma
        have hhr : hf (S.1 r 3) (S.1 r 4) (S.1 r 5) (S.1 r 6) ma = fH S r (nI ma) := by unfold fH; rw [nI_clamp (by omega)]
        generalize setF S c 5 D = S1 at eD hJ1 e1r e1f ⊢
        have we' : ∀ T : qS, T.1 r = S.1 r → (fW T r (nI ma) == eW T r (nI en)) = true := fun T eT => by
          unfold fW eW at we ⊢
          rw [eT]; exact we
        cases hh : fH S r (nI ma) with
        | true =>
          obtain ⟨D', hD', e'⟩ := (rf S1 e1r).2.2 (by rw [he, ha]; rfl) (we' S1 e1r)
          rw [fH_eq e1r, hh] at e'
          exact ⟨_, S1, 0, _, rfl, e', ⟨E, N, A, I, eS, Jn_21 hJ1 hD'⟩, Or.inr ⟨xIAE, (xIAE, 2), rfl, rfl, thr_0, by decide⟩⟩
        | false =>
          rw [cond_false, tW_inl, uO h1 (by decide), o1, uk h2]
          obtain ⟨j1, j2, j3, j4, j5, j6, j7, j8⟩ := hJ1
          have sl := seenN_le (g := S1.1 r 15) E
          have tell : ∃ S2, yC (G_XCore_tellPlain O n c (nI en) (nI ma) S1) (fun v10 S9 => hzx v10 S9) = some (.inl (S1.1 r 15 en), S2) ∧ rOnly c S1 S2 ∧ (∀ j, j ≠ 3 → j ≠ 7 → S2.1 c j = S1.1 c j) ∧ (∀ i, S2.1 c 3 i = if i = en then nI ma else S1.1 c 3 i) ∧ S2.1 c 7 0 = nI (seenN (upd1 (S1.1 r 15) en 1) E) := by
            unfold G_XCore_tellPlain G_XCore_tellPlain_15 G_XCore_tellPlain_37
            rw [uA h2 (by decide), ul h2 (by decide) l3 (by omega), (seenN_upd (E := E)).1 hen]
            obtain ⟨cj, c3⟩ := up3_c (S := S1) (c := c) (j := 3) (i := en) (v := nI ma)
            have o3 : rOnly c S1 (up3 S1.1 c 3 en (nI ma), S1.2) := rOnly.up
            rcases j5.2.2.2.1 en hen with ⟨z1, z2⟩ | ⟨z1, z2, _⟩
            · rw [if_pos z1, uA h2 (by decide), uw h2 (by decide) l3 (by omega), if_pos rfl, uI h2 (by decide), cj 7 (by decide), j7, uP h2 (by decide), nI_1, z2, if_pos rfl]
              generalize ((up3 S1.1 c 3 en (nI ma), S1.2) : qS) = T at cj c3 o3 ⊢
              exact ⟨_, rfl, o3.trans rOnly.up, fun j j3' j7' => by rw [up3_f j7', cj j j3'], fun i => by rw [up3_f (by decide)]; exact c3 i, up3_v⟩
            · rw [if_neg z1, uA h2 (by decide), uw h2 (by decide) l3 (by omega), if_neg (by decide), z2, if_neg (by decide)]
              generalize ((up3 S1.1 c 3 en (nI ma), S1.2) : qS) = T at cj c3 o3 ⊢
              exact ⟨_, rfl, o3, fun j j3' _ => cj j j3', c3, by rw [cj 7 (by decide), j7]; rfl⟩
          obtain ⟨S2, et, o2, cj, c3, c7⟩ := tell
          have e2r : S2.1 r = S.1 r := by rw [o2.2 r (fun y => nc y.symm), e1r]
          obtain ⟨D', hD', e'⟩ := (rf S2 e2r).2.2 (by rw [he, ha]; rfl) (we' S2 e2r)
          rw [fH_eq e2r, hh, nI_clamp (show en < 2 ^ 31 by omega)] at e'
          have e2r1 : S2.1 r = S1.1 r := by rw [e2r, e1r]
          have k21 : (setF (setF (thr (setF S2 r 21 D') r 0) r 14 (upd1 (S2.1 r 14) en (nI ma))) r 15 (upd1 (S2.1 r 15) en 1)).1 r 21 = D' := by rw [setF_ne (by decide), setF_ne (by decide), thr_f (by decide), setF_same]
          have k15 : (setF (setF (thr (setF S2 r 21 D') r 0) r 14 (upd1 (S2.1 r 14) en (nI ma))) r 15 (upd1 (S2.1 r 15) en 1)).1 r 15 = upd1 (S1.1 r 15) en 1 := by rw [setF_same, e2r1]
          have k14 : (setF (setF (thr (setF S2 r 21 D') r 0) r 14 (upd1 (S2.1 r 14) en (nI ma))) r 15 (upd1 (S2.1 r 15) en 1)).1 r 14 = upd1 (S1.1 r 14) en (nI ma) := by rw [setF_ne (by decide), setF_same, e2r1]
          have k0 : (setF (setF (thr (setF S2 r 21 D') r 0) r 14 (upd1 (S2.1 r 14) en (nI ma))) r 15 (upd1 (S2.1 r 15) en 1)).1 r 0 0 = 0 := by rw [setF_ne (by decide), setF_ne (by decide)]; exact thr_0
          have kj : ∀ j, j ≠ 0 → j ≠ 14 → j ≠ 15 → j ≠ 21 → (setF (setF (thr (setF S2 r 21 D') r 0) r 14 (upd1 (S2.1 r 14) en (nI ma))) r 15 (upd1 (S2.1 r 15) en 1)).1 r j = S1.1 r j := fun j h0 h14 h15 h21 => by rw [setF_ne h15, setF_ne h14, thr_f h0, setF_ne h21, e2r1]
          have o3 : rOnly r S2 (setF (setF (thr (setF S2 r 21 D') r 0) r 14 (upd1 (S2.1 r 14) en (nI ma))) r 15 (upd1 (S2.1 r 15) en 1)) := ((setF_only.trans thr_only).trans setF_only).trans setF_only
          generalize setF (setF (thr (setF S2 r 21 D') r 0) r 14 (upd1 (S2.1 r 14) en (nI ma))) r 15 (upd1 (S2.1 r 15) en 1) = S3 at e' k21 k15 k14 k0 kj o3
          rw [et]
          have e3c : S3.1 c = S2.1 c := o3.2 c nc
          have e3f : S3.1 f = S1.1 f := by rw [o3.2 f nf, o2.2 f (fun y => (NE ()).1.2.2.1 y.symm)]
          have e3u : S3.1 u = S1.1 u := by rw [o3.2 u nu, o2.2 u (fun y => (NE ()).1.2.2.2.2.2.2 y.symm)]
          have e3p : S3.1 p = S1.1 p := by rw [o3.2 p np, o2.2 p (fun y => (NE ()).1.1 y.symm)]
          have u15 : ∀ i, upd1 (S1.1 r 15) en 1 i = if i = en then 1 else S1.1 r 15 i := fun _ => rfl
          have u14 : ∀ i, upd1 (S1.1 r 14) en (nI ma) i = if i = en then nI ma else S1.1 r 14 i := fun _ => rfl
          have wr1 : wd (S1.1 r 3) (S1.1 r 5) ma = eS en := by rw [e1r]; exact wr
          have hr1 : hf (S1.1 r 3) (S1.1 r 4) (S1.1 r 5) (S1.1 r 6) ma = false := by rw [e1r, hhr]; exact hh
          have wc1 : cWd S1 f ma = eS en := by unfold cWd at wc' ⊢; rw [e1f]; exact wc'
          have hf1 : hf (S1.1 f 0) (S1.1 f 1) (S1.1 f 2) (S1.1 f 3) ma = false := by rw [e1f, hfm]; exact hh
          refine ⟨_, S2, S2.1 r 15 en, S3, rfl, e', ⟨E, N, A, I, eS, j1, j2, ?_, ?_, ⟨?_, ?_, ?_, ?_, ?_⟩, ⟨by rw [e3p]; exact j6.1, by rw [e3c, cj 5 (by decide) (by decide)]; exact j6.2⟩, by rw [e3c, c7, k15], ?_⟩, Or.inl ⟨by rw [e2r1], k0⟩⟩
          · obtain ⟨i1, i2, i3, i4, i5, i6, i7, i8, i9, i10, i11, i12⟩ := j3
            refine RI_mk ⟨i1, i2, i3, i4, i5, i6, i7, i8, i9, i10, i11, i12⟩ (fun j hj => kj j (by omega) (by omega) (by omega) (by omega)) (fun m => by rw [k21]; exact hD' m) (fun e' he' => ?_) (fun e' => by rw [kj 13 (by decide) (by decide) (by decide) (by decide)]; exact i6 e') (fun e' => ?_) (fun e' he' => ?_) (fun e' he' hs' => ?_) (by rw [kj 10 (by decide) (by decide) (by decide) (by decide)]; exact i10) i11 (fun k hk => by rw [kj 16 (by decide) (by decide) (by decide) (by decide)]; exact i12 k hk)
            · rw [kj 12 (by decide) (by decide) (by decide) (by decide), kj 3 (by decide) (by decide) (by decide) (by decide), kj 5 (by decide) (by decide) (by decide) (by decide)]; exact i5 e' he'
            · rw [k15, u15]
              by_cases z : e' = en
              · rw [if_pos z]; exact Or.inr rfl
              · rw [if_neg z]; exact i7 e'
            · rw [k15, u15, if_neg (by omega), kj 13 (by decide) (by decide) (by decide) (by decide)]; exact i8 e' he'
            · rw [k15, u15] at hs'
              rw [k14, u14]
              by_cases z : e' = en
              · rw [if_pos z, z]; exact ⟨ma, hma, rfl, wr1, hr1⟩
              · rw [if_neg z] at hs' ⊢
                exact i9 e' he' hs'
          · obtain ⟨i1, i2, i3, i4, i5, i6, i7, i8, i9, i10⟩ := j4
            refine CoI_mk ⟨i1, i2, i3, i4, i5, i6, i7, i8, i9, i10⟩ e3f (by rw [e3c]; exact cj 6 (by decide) (by decide)) (by rw [e3c]; exact cj 1 (by decide) (by decide)) (fun e' he' => by rw [e3c, cj 2 (by decide) (by decide)]; exact i6 e' he') (fun e' he' => ?_) (by rw [e3c, cj 8 (by decide) (by decide)]; exact i8) i9 (fun k hk => by rw [e3c, cj 4 (by decide) (by decide)]; exact i10 k hk)
            rw [e3c, c3]
            by_cases z : e' = en
            · rw [if_pos z, z]; exact Or.inr ⟨ma, hma, rfl, wc1, hf1⟩
            · rw [if_neg z]; exact i7 e' he'
          · rw [e3f, kj 3 (by decide) (by decide) (by decide) (by decide), kj 4 (by decide) (by decide) (by decide) (by decide), kj 5 (by decide) (by decide) (by decide) (by decide), kj 6 (by decide) (by decide) (by decide) (by decide)]; exact j5.1
          · rw [e3c, cj 1 (by decide) (by decide), kj 11 (by decide) (by decide) (by decide) (by decide)]; exact j5.2.1
          · rw [e3c, cj 2 (by decide) (by decide), kj 11 (by decide) (by decide) (by decide) (by decide), kj 12 (by decide) (by decide) (by decide) (by decide), kj 13 (by decide) (by decide) (by decide) (by decide)]; exact j5.2.2.1
          · intro e' he'
            rw [e3c, c3, k15, u15, k14, u14]
            by_cases z : e' = en
            · rw [if_pos z, if_pos z, if_pos z]
              refine Or.inr ⟨fun y => ?_, rfl, rfl⟩
              have := nI_pos (show ma < 2 ^ 31 by omega)
              rw [y] at this
              exact this (by decide)
            · rw [if_neg z, if_neg z, if_neg z]; exact j5.2.2.2.1 e' he'
          · rw [e3c, cj 4 (by decide) (by decide), kj 16 (by decide) (by decide) (by decide) (by decide)]; exact j5.2.2.2.2
          · unfold OutJ at j8 ⊢
            rw [e3u, kj 29 (by decide) (by decide) (by decide) (by decide), kj 30 (by decide) (by decide) (by decide) (by decide), kj 31 (by decide) (by decide) (by decide) (by decide), kj 32 (by decide) (by decide) (by decide) (by decide), kj 33 (by decide) (by decide) (by decide) (by decide), kj 34 (by decide) (by decide) (by decide) (by decide), kj 35 (by decide) (by decide) (by decide) (by decide)]
            exact j8
theorem J_invariant (hJ : Jn O x c u p f w q s l r E N A I eS S) (hn : 7000 ≤ n) (a : Int32) : CallOk (G_X_invariant O n x a S) (fun T => G_XModel_invariant O n r a T) tbi r (JE O x c u p f w q s l r) := by
  have hO := hJ.1
  have h := hJ.2.1
  have hR := hJ.2.2.1
  have hI := hJ.2.2.2.1
  obtain ⟨nc, nu, np, nf, _⟩ := Ref_ne hO h
  have NE := fun _ : Unit => ClO_ne hO
  have hC := hI.1
  have hE := hI.2.1
  have hN := hC.2.2.1
  have hN31 := (CS_big hC).1
  have hI8 := hI.2.2.2.2.2.2.2.2.1
  obtain ⟨h1, h2, o1, o4, h3⟩ := ClO_f hO
  have lens := hO.2.2.2.1
  have rf := fun (T : qS) (eT : T.1 r = S.1 r) => ref_invariant (O := O) (n := n) h hn (RI_eq eT hR).1 (I := I) (by rw [eT]; exact hR.2.2.2.2.2.2.2.2.2.1) hI8 a
  have r0 := rf S rfl
  unfold G_X_invariant
  rw [uk h1, cls_reqNode hO hC]
  cases ha : inN a N with
  | false => exact J_refuse hJ (e := xIOB) (t := 1) rfl (by decide) (r0.1 (by rw [ha]; simp))
  | true =>
    rw [cond_true, tW_inl, uk h1, cls_reqTruth hO hC, ha, Bool.true_and, fW_c hJ ha]
    cases wa : fW S r a with
    | true => exact J_refuse hJ (e := xIAE) (t := 2) rfl (by decide) (r0.2.1 ha wa)
    | false =>
      have hca := fW_c hJ ha
      obtain ⟨ma, hma, rfl⟩ := (inN_iff hN31).mp ha
      have wr : wd (S.1 r 3) (S.1 r 5) ma = false := by
        rw [← wa]; unfold fW; rw [nI_clamp (by omega)]
      have wc' : cWd S f ma = false := by
        rw [nI_clamp (by omega)] at hca
        rw [hca]; exact wa
      obtain ⟨D, hD, eD⟩ := cls_reqNoFetch (O := O) (n := n) hO hn hE hC hJ.2.2.2.2.2.1.2 hma
      rw [cond_false, tW_inl, uk h1, eD, fH_c hJ hma]
      have hJ1 := Jn_c5 hJ hD
      have e1r : (setF S c 5 D).1 r = S.1 r := setF_q (fun z => nc z.symm)
      have e1f : (setF S c 5 D).1 f = S.1 f := setF_q (fun z => (NE ()).1.2.2.1 z.symm)
      have hfm := fH_c hJ hma
      have hhr : hf (S.1 r 3) (S.1 r 4) (S.1 r 5) (S.1 r 6) ma = fH S r (nI ma) := by unfold fH; rw [nI_clamp (by omega)]
      generalize setF S c 5 D = S1 at eD hJ1 e1r e1f ⊢
      have wa' : ∀ T : qS, T.1 r = S.1 r → fW T r (nI ma) = false := fun T eT => by
        unfold fW at wa ⊢
        rw [eT]; exact wa
      obtain ⟨D1, hD1, f1, f2, f3⟩ := (rf S1 e1r).2.2 ha (wa' S1 e1r)
      rw [fH_eq e1r] at f1 f2 f3
      have s0 : ∀ v : Int32, thr (setF (thr S1 r 0) r 21 D1) r v = thr (setF S1 r 21 D1) r v := fun v => by
        refine Prod.ext ?_ rfl
        funext o j i
        show up3 (upA (up3 S1.1 r 0 0 0) r 21 D1) r 0 0 v o j i = up3 (upA S1.1 r 21 D1) r 0 0 v o j i
        unfold up3 upA
        by_cases z : o = r ∧ j = 0 ∧ i = 0
        · rw [if_pos z, if_pos z]
        · rw [if_neg z, if_neg z]
          by_cases y : o = r ∧ j = 21
          · rw [if_pos y, if_pos y]
          · rw [if_neg y, if_neg y]
            exact if_neg z
      cases hh : fH S r (nI ma) with
      | true =>
        have e' := f1 hh
        rw [s0] at e'
        exact ⟨_, S1, 0, _, rfl, e', ⟨E, N, A, I, eS, Jn_21 hJ1 hD1⟩, Or.inr ⟨xIAE, (xIAE, 2), rfl, rfl, thr_0, by decide⟩⟩
      | false =>
        have hJ1' := hJ1
        obtain ⟨j1, j2, j3, j4, j5, j6, j7, j8⟩ := hJ1
        rw [cond_false, tW_inl, uO h1 (by decide), o1, uI h2 (by decide), j4.2.2.2.2.2.2.2.1]
        by_cases i8' : I = 8
        · have e' := f2 hh i8'
          rw [s0] at e'
          rw [if_neg (show ¬ nI I < (8 : Int32) from fun z => by have := (nI_ltI (a := I) (b := 8) (by omega) (by decide)).mp z; omega)]
          exact ⟨_, S1, 0, _, rfl, e', ⟨E, N, A, I, eS, Jn_21 hJ1' hD1⟩, Or.inr ⟨xISE, (xISE, 3), rfl, rfl, thr_0, by decide⟩⟩
        · have l4 : I < oN O c 4 := by rw [lens.2.2.2.1]; omega
          rw [if_pos (show nI I < (8 : Int32) from (nI_ltI (a := I) (b := 8) (by omega) (by decide)).mpr (by omega)), uO h1 (by decide), o1, uk h2]
          have add : ∃ S2, G_XCore_addInvariant O n c (nI ma) S1 = some (nI I, S2) ∧ rOnly c S1 S2 ∧ (∀ j, j ≠ 4 → j ≠ 8 → S2.1 c j = S1.1 c j) ∧ (∀ i, S2.1 c 4 i = if i = I then nI ma else S1.1 c 4 i) ∧ S2.1 c 8 0 = nI (I + 1) := by
            unfold G_XCore_addInvariant
            obtain ⟨cj, c4⟩ := up3_c (S := S1) (c := c) (j := 4) (i := I) (v := nI ma)
            have o4' : rOnly c S1 (up3 S1.1 c 4 I (nI ma), S1.2) := rOnly.up
            rw [uA h2 (by decide), uI h2 (by decide), j4.2.2.2.2.2.2.2.1, uw h2 (by decide) l4 (by omega), uI h2 (by decide), cj 8 (by decide), j4.2.2.2.2.2.2.2.1, uP h2 (by decide), nI_1]
            generalize ((up3 S1.1 c 4 I (nI ma), S1.2) : qS) = T at cj c4 o4' ⊢
            rw [uI h2 (by decide)]
            have v8 : ((up3 T.1 c 8 0 (nI (I + 1)), T.2) : qS).1 c 8 0 = nI (I + 1) := up3_v
            rw [v8, nI_pred]
            exact ⟨_, rfl, o4'.trans rOnly.up, fun j h4 h8 => by rw [up3_f h8, cj j h4], fun i => by rw [up3_f (by decide)]; exact c4 i, v8⟩
          obtain ⟨S2, ea, o2, cj, c4, c8⟩ := add
          have e2r : S2.1 r = S.1 r := by rw [o2.2 r (fun y => nc y.symm), e1r]
          have e2r1 : S2.1 r = S1.1 r := by rw [e2r, e1r]
          obtain ⟨D', hD', _, _, g3⟩ := (rf S2 e2r).2.2 ha (wa' S2 e2r)
          have e' := g3 (by rw [fH_eq e2r]; exact hh) (by omega)
          have k21 : (setF (setF (setF (thr S2 r 0) r 21 D') r 16 (upd1 (S2.1 r 16) I (nI ma))) r 10 (upd1 (S2.1 r 10) 0 (nI (I + 1)))).1 r 21 = D' := by rw [setF_ne (by decide), setF_ne (by decide), setF_same]
          have k16 : (setF (setF (setF (thr S2 r 0) r 21 D') r 16 (upd1 (S2.1 r 16) I (nI ma))) r 10 (upd1 (S2.1 r 10) 0 (nI (I + 1)))).1 r 16 = upd1 (S1.1 r 16) I (nI ma) := by rw [setF_ne (by decide), setF_same, e2r1]
          have k10 : (setF (setF (setF (thr S2 r 0) r 21 D') r 16 (upd1 (S2.1 r 16) I (nI ma))) r 10 (upd1 (S2.1 r 10) 0 (nI (I + 1)))).1 r 10 0 = nI (I + 1) := by rw [setF_same]; exact if_pos rfl
          have k0 : (setF (setF (setF (thr S2 r 0) r 21 D') r 16 (upd1 (S2.1 r 16) I (nI ma))) r 10 (upd1 (S2.1 r 10) 0 (nI (I + 1)))).1 r 0 0 = 0 := by rw [setF_ne (by decide), setF_ne (by decide), setF_ne (by decide)]; exact thr_0
          have kj : ∀ j, j ≠ 0 → j ≠ 10 → j ≠ 16 → j ≠ 21 → (setF (setF (setF (thr S2 r 0) r 21 D') r 16 (upd1 (S2.1 r 16) I (nI ma))) r 10 (upd1 (S2.1 r 10) 0 (nI (I + 1)))).1 r j = S1.1 r j := fun j h0 h10 h16 h21 => by rw [setF_ne h10, setF_ne h16, setF_ne h21, thr_f h0, e2r1]
          have o3 : rOnly r S2 (setF (setF (setF (thr S2 r 0) r 21 D') r 16 (upd1 (S2.1 r 16) I (nI ma))) r 10 (upd1 (S2.1 r 10) 0 (nI (I + 1)))) := ((thr_only.trans setF_only).trans setF_only).trans setF_only
          generalize setF (setF (setF (thr S2 r 0) r 21 D') r 16 (upd1 (S2.1 r 16) I (nI ma))) r 10 (upd1 (S2.1 r 10) 0 (nI (I + 1))) = S3 at e' k21 k16 k10 k0 kj o3
          rw [ea, yC_some]
          have e3c : S3.1 c = S2.1 c := o3.2 c nc
          have e3f : S3.1 f = S1.1 f := by rw [o3.2 f nf, o2.2 f (fun y => (NE ()).1.2.2.1 y.symm)]
          have e3u : S3.1 u = S1.1 u := by rw [o3.2 u nu, o2.2 u (fun y => (NE ()).1.2.2.2.2.2.2 y.symm)]
          have e3p : S3.1 p = S1.1 p := by rw [o3.2 p np, o2.2 p (fun y => (NE ()).1.1 y.symm)]
          have u16 : ∀ i, upd1 (S1.1 r 16) I (nI ma) i = if i = I then nI ma else S1.1 r 16 i := fun _ => rfl
          have wr1 : wd (S1.1 r 3) (S1.1 r 5) ma = false := by rw [e1r]; exact wr
          have hr1 : hf (S1.1 r 3) (S1.1 r 4) (S1.1 r 5) (S1.1 r 6) ma = false := by rw [e1r, hhr]; exact hh
          have wc1 : cWd S1 f ma = false := by unfold cWd at wc' ⊢; rw [e1f]; exact wc'
          have hf1 : hf (S1.1 f 0) (S1.1 f 1) (S1.1 f 2) (S1.1 f 3) ma = false := by rw [e1f, hfm]; exact hh
          refine ⟨_, S2, nI I, S3, rfl, e', ⟨E, N, A, I + 1, eS, j1, j2, ?_, ?_, ⟨?_, ?_, ?_, ?_, ?_⟩, ⟨by rw [e3p]; exact j6.1, by rw [e3c, cj 5 (by decide) (by decide)]; exact j6.2⟩, by rw [e3c, cj 7 (by decide) (by decide), kj 15 (by decide) (by decide) (by decide) (by decide)]; exact j7, ?_⟩, Or.inl ⟨rfl, k0⟩⟩
          · obtain ⟨i1, i2, i3, i4, i5, i6, i7, i8, i9, i10, i11, i12⟩ := j3
            refine RI_mk ⟨i1, i2, i3, i4, i5, i6, i7, i8, i9, i10, i11, i12⟩ (fun j hj => kj j (by omega) (by omega) (by omega) (by omega)) (fun m => by rw [k21]; exact hD' m) (fun e' he' => ?_) (fun e' => by rw [kj 13 (by decide) (by decide) (by decide) (by decide)]; exact i6 e') (fun e' => by rw [kj 15 (by decide) (by decide) (by decide) (by decide)]; exact i7 e') (fun e' he' => by rw [kj 13 (by decide) (by decide) (by decide) (by decide), kj 15 (by decide) (by decide) (by decide) (by decide)]; exact i8 e' he') (fun e' he' hs' => ?_) k10 (by omega) (fun k hk => ?_)
            · rw [kj 12 (by decide) (by decide) (by decide) (by decide), kj 3 (by decide) (by decide) (by decide) (by decide), kj 5 (by decide) (by decide) (by decide) (by decide)]; exact i5 e' he'
            · rw [kj 15 (by decide) (by decide) (by decide) (by decide)] at hs'
              rw [kj 14 (by decide) (by decide) (by decide) (by decide)]; exact i9 e' he' hs'
            · rw [k16, u16]
              by_cases z : k = I
              · rw [if_pos z]; exact ⟨ma, hma, rfl, wr1, hr1⟩
              · rw [if_neg z]; exact i12 k (by omega)
          · obtain ⟨i1, i2, i3, i4, i5, i6, i7, i8, i9, i10⟩ := j4
            refine CoI_mk ⟨i1, i2, i3, i4, i5, i6, i7, i8, i9, i10⟩ e3f (by rw [e3c]; exact cj 6 (by decide) (by decide)) (by rw [e3c]; exact cj 1 (by decide) (by decide)) (fun e' he' => by rw [e3c, cj 2 (by decide) (by decide)]; exact i6 e' he') (fun e' he' => by rw [e3c, cj 3 (by decide) (by decide)]; exact i7 e' he') (by rw [e3c]; exact c8) (by omega) (fun k hk => ?_)
            rw [e3c, c4]
            by_cases z : k = I
            · rw [if_pos z]; exact ⟨ma, hma, rfl, wc1, hf1⟩
            · rw [if_neg z]; exact i10 k (by omega)
          · rw [e3f, kj 3 (by decide) (by decide) (by decide) (by decide), kj 4 (by decide) (by decide) (by decide) (by decide), kj 5 (by decide) (by decide) (by decide) (by decide), kj 6 (by decide) (by decide) (by decide) (by decide)]; exact j5.1
          · rw [e3c, cj 1 (by decide) (by decide), kj 11 (by decide) (by decide) (by decide) (by decide)]; exact j5.2.1
          · rw [e3c, cj 2 (by decide) (by decide), kj 11 (by decide) (by decide) (by decide) (by decide), kj 12 (by decide) (by decide) (by decide) (by decide), kj 13 (by decide) (by decide) (by decide) (by decide)]; exact j5.2.2.1
          · rw [e3c, cj 3 (by decide) (by decide), kj 15 (by decide) (by decide) (by decide) (by decide), kj 14 (by decide) (by decide) (by decide) (by decide)]; exact j5.2.2.2.1
          · intro k hk
            rw [e3c, c4, k16, u16]
            by_cases z : k = I
            · rw [if_pos z, if_pos z]
            · rw [if_neg z, if_neg z]; exact j5.2.2.2.2 k (by omega)
          · unfold OutJ at j8 ⊢
            rw [e3u, kj 29 (by decide) (by decide) (by decide) (by decide), kj 30 (by decide) (by decide) (by decide) (by decide), kj 31 (by decide) (by decide) (by decide) (by decide), kj 32 (by decide) (by decide) (by decide) (by decide), kj 33 (by decide) (by decide) (by decide) (by decide), kj 34 (by decide) (by decide) (by decide) (by decide), kj 35 (by decide) (by decide) (by decide) (by decide)]
            exact j8
end TELLS2
