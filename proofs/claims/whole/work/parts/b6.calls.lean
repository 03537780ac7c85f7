/-! A CALL ON BOTH SIDES -/
def CallOk (y1 : Option ((Int32 ⊕ String) × qS)) (y2 : qS → Option (Int32 × qS)) (tb : List (String × Int32)) (r : Nat) (P : qS → Prop) : Prop :=
  ∃ res S1 v S2, y1 = some (res, S1) ∧ y2 S1 = some (v, S2) ∧ P S2 ∧ ((res = .inl v ∧ S2.1 r 0 0 = 0) ∨ ∃ e t, res = .inr e ∧ tb.find? (fun z => z.1 == e) = some t ∧ S2.1 r 0 0 = t.2 ∧ ¬ t.2 = 0)
def JE (O : qOb9) (x c u p f w q s l r : Nat) (S : qS) : Prop := ∃ E N A I eS, Jn O x c u p f w q s l r E N A I eS S
abbrev tb3 : List (String × Int32) := [("java/lang/IndexOutOfBoundsException", 1), ("java/lang/IllegalArgumentException", 2), ("java/lang/UnsupportedOperationException", 3)]
theorem rPl_congr {σ σ' : Nat → Nat → Int32} {k a b z : Int32} (h3 : σ 3 = σ' 3) (h4 : σ 4 = σ' 4) : rPl σ k a b z = rPl σ' k a b z := by
  unfold rPl
  rw [h3, h4]
theorem Face_eq {r E N : Nat} {S T : qS} (h : T.1 r = S.1 r) (hF : Face r S E N) : Face r T E N := by
  unfold Face at hF ⊢
  rw [h]; exact hF
section CALLS
variable {O : qOb9} {x c u p f w q s l r n E N A I : Nat} {S : qS} {eS : Nat → Bool}
theorem fW_c (hJ : Jn O x c u p f w q s l r E N A I eS S) {a : Int32} (ha : inN a N = true) : cWd S f a.toNatClampNeg = fW S r a := by
  obtain ⟨_, _, _, j4, j5, _⟩ := hJ
  have hN31 := (CS_big j4.1).1
  obtain ⟨m, hm, rfl⟩ := (inN_iff hN31).mp ha
  unfold fW
  rw [nI_clamp (by omega)]
  exact (wd_congr j4.1.2.2.2.1.2.1 hN31 (fun m hm => (j5.1 m hm).1) (fun m hm => (j5.1 m hm).2.2.1) m hm).symm
theorem J_made (hJ : Jn O x c u p f w q s l r E N A I eS S) {k a b z cv v : Int32} {S1 S2 : qS} (hk : ¬ k ≤ 4) (hC : (¬ rPl (S.1 r) k a b z < 0 ∧ cv = rPl (S.1 r) k a b z ∧ S1 = S) ∨ (rPl (S.1 r) k a b z < 0 ∧ PutF O f E N S k (rFst k a b) (rSnd k a b) z cv S1)) (hA : Ans r S1 S2 E N k a b z v) :
    (cv = -1 ∧ S2.1 r 0 0 = 3 ∧ JE O x c u p f w q s l r S2) ∨ (¬ cv = -1 ∧ cv = v ∧ S2.1 r 0 0 = 0 ∧ JE O x c u p f w q s l r S2) := by
  have hJ' := hJ
  obtain ⟨j1, j2, j3, j4, j5, j6, j7, j8⟩ := hJ
  obtain ⟨nc, nu, np, nf, _⟩ := Ref_ne j1 j2
  have NE := ClO_ne j1
  have hF := j3.1.1
  have hN := hF.2.2.1
  have hNA := j3.1.2.2.1
  obtain ⟨ao, at', a21⟩ := hA
  have e1r : S1.1 r = S.1 r := by
    rcases hC with ⟨_, _, rfl⟩ | ⟨_, ⟨_, _, _, _, rfl⟩ | ⟨_, _, _, rfl⟩ | ⟨_, _, _, _, o, _⟩⟩
    · rfl
    · rfl
    · rfl
    · exact o.2 r (fun y => nf y.symm)
  have tr : ∀ j, j ≠ 0 → (thr S1 r 0).1 r j = S.1 r j := fun j hj => by rw [thr_f hj, e1r]
  have rp : rPl ((thr S1 r 0).1 r) k a b z = rPl (S.1 r) k a b z := rPl_congr (tr 3 (by decide)) (tr 4 (by decide))
  have row : ∀ y1 y2 m, m < N → (rowIs ((thr S1 r 0).1 r) k y1 y2 z m ↔ rwI (S.1 f) k y1 y2 z m) := fun y1 y2 m hm => by
    obtain ⟨g1, g2, g3, g4⟩ := j5.1 m hm
    unfold rowIs rwI
    rw [tr 3 (by decide), tr 4 (by decide), tr 5 (by decide), tr 6 (by decide), g1, g2, g3, g4]
  have n1 : ∀ {m : Nat}, m < 2 ^ 31 → ¬ nI m = (-1 : Int32) := fun {m} hm y => by
    have := nI_pos hm
    rw [y] at this
    exact this (by decide)
  -- the same face, whatever the reference's chains
  have same : S1 = S → Face r S2 E N → (∀ j i, j ≠ 7 → j ≠ 8 → j ≠ 2 → j ≠ 0 → S2.1 r j i = (thr S1 r 0).1 r j i) → JE O x c u p f w q s l r S2 := fun eS1 hF2 hs => by
    subst eS1
    have hs' : ∀ j, j ≠ 0 → j ≠ 2 → j ≠ 7 → j ≠ 8 → j ≠ 21 → S2.1 r j = S1.1 r j := fun j h0 h2 h7 h8 _ => funext fun i => by rw [hs j i h7 h8 h2 h0, thr_f h0]
    have m21 : ∀ m, S2.1 r 21 m = 0 ∨ S2.1 r 21 m = 1 := fun m => by rw [hs 21 m (by decide) (by decide) (by decide) (by decide), thr_f (by decide)]; exact j3.1.2.2.2.2.2 m
    rcases a21 with y | y
    · exact ⟨E, N, A, I, eS, Jn_r hJ' ao hs' (by rw [y, thr_f (by decide)]; exact j3.1.2.1) hNA (Or.inl (Nat.le_refl A)) m21⟩
    · exact ⟨E, N, N, I, eS, Jn_r hJ' ao hs' (by rw [y]; exact hF2.1) (Nat.le_refl N) (Or.inr rfl) m21⟩
  rcases at' with ⟨t1, t2, t3⟩ | ⟨t1, ⟨m, hm, t2, t3⟩, t4, t5⟩ | ⟨t1, t2, t3, t4, t5, t6, t7⟩ | ⟨t1, t2, t3, t4, t5, t6, t7⟩
  · rw [rp] at t1 t2
    rcases hC with ⟨_, c2, c3⟩ | ⟨c1, _⟩
    · refine Or.inr ⟨fun y => t1 (by rw [← c2, y]; decide), c2.trans t2.symm, by rw [t3]; exact thr_0, ?_⟩
      rw [t3, c3]
      exact ⟨E, N, A, I, eS, Jn_thr hJ'⟩
    · exact absurd c1 t1
  · rw [rp] at t1
    rcases hC with ⟨c1, _⟩ | ⟨_, hP⟩
    · exact absurd t1 c1
    · have rm := (row _ _ m hm).mp t3
      rcases hP with ⟨m', hm', r', c2, c3⟩ | ⟨no, _⟩ | ⟨no, _⟩
      · have em : m' = m := j4.1.2.2.2.1.2.2 m' m hm' hm (r'.1.trans rm.1.symm) (r'.2.1.trans rm.2.1.symm) (r'.2.2.1.trans rm.2.2.1.symm) (r'.2.2.2.trans rm.2.2.2.symm)
        refine Or.inr ⟨by rw [c2]; exact n1 (by omega), by rw [c2, t2, em], ?_, same c3 t4 (fun j i h7 h8 h2 _ => t5 j i h7 h8 h2)⟩
        rw [t5 0 0 (by decide) (by decide) (by decide)]; exact thr_0
      · exact absurd rm (no m hm)
      · exact absurd rm (no m hm)
  · rw [rp] at t1
    rcases hC with ⟨c1, _⟩ | ⟨_, hP⟩
    · exact absurd t1 c1
    · rcases hP with ⟨m', hm', r', _⟩ | ⟨_, _, c2, c3⟩ | ⟨_, h3, _⟩
      · exact absurd ((row _ _ m' hm').mpr r') (t2 m' hm')
      · exact Or.inl ⟨c2, t5, same c3 t6 t7⟩
      · omega
  · rw [rp] at t1
    rcases hC with ⟨c1, _⟩ | ⟨_, hP⟩
    · exact absurd t1 c1
    · rcases hP with ⟨m', hm', r', _⟩ | ⟨_, h3, _⟩ | ⟨_, _, c2, c3, c4, c5, c6⟩
      · exact absurd ((row _ _ m' hm').mpr r') (t2 m' hm')
      · omega
      · refine Or.inr ⟨by rw [c2]; exact n1 (by omega), c2.trans t4.symm, ?_, E, N + 1, N + 1, I, eS, ?_⟩
        · rw [t7 0 0 (by decide) (by decide) (by decide) (by decide) (by omega)]; exact thr_0
        · have h2 : S2.1 r 2 0 = nI (N + 1) := by
            rcases a21 with y | y
            · exfalso
              have := t5.1
              rw [y, tr 1 (by decide), hF.1] at this
              have := (nI_eq (by omega) (by omega)).mp this
              omega
            · rw [y]; exact t5.1
          have hs : ∀ j i, j ≠ 0 → j ≠ 7 → j ≠ 8 → j ≠ 2 → j ≠ 1 → ¬ (3 ≤ j ∧ j ≤ 6 ∧ i = N) → S2.1 r j i = S.1 r j i := fun j i h0 h7 h8 h2' h1 hne => by rw [t7 j i h7 h8 h2' h1 hne, tr j h0]
          have sj : ∀ j, 9 ≤ j → S2.1 r j = S.1 r j := fun j hj => funext fun i => hs j i (by omega) (by omega) (by omega) (by omega) (by omega) (by omega)
          have e2f : S2.1 f = S1.1 f := ao.2 f nf
          have e2c : S2.1 c = S.1 c := by rw [ao.2 c nc, c4.2 c NE.1.2.2.1]
          have e2u : S2.1 u = S.1 u := by rw [ao.2 u nu, c4.2 u (fun y => NE.2.2.2.1.2.2.2 y.symm)]
          have e2p : S2.1 p = S.1 p := by rw [ao.2 p np, c4.2 p NE.2.1.2.1]
          refine ⟨j1, j2, RI_new j3 t5 h2 (by rw [t6.1]; exact hk) hs, CoI_new j4 (CS_other c3 e2f) (by rw [e2f, c6.1]; exact hk) (fun j i hj hi => by rw [e2f]; exact c5 j i hj hi) e2c, ⟨fun m hm => ?_, ?_, ?_, ?_, ?_⟩, by rw [e2p, e2c]; exact j6, by rw [e2c, sj 15 (by omega)]; exact j7, ?_⟩
          · by_cases y : m = N
            · subst y
              rw [e2f]
              exact ⟨t6.1.trans c6.1.symm, t6.2.1.trans c6.2.1.symm, t6.2.2.1.trans c6.2.2.1.symm, t6.2.2.2.trans c6.2.2.2.symm⟩
            · obtain ⟨g1, g2, g3, g4⟩ := j5.1 m (by omega)
              rw [e2f, hs 3 m (by decide) (by decide) (by decide) (by decide) (by decide) (by omega), hs 4 m (by decide) (by decide) (by decide) (by decide) (by decide) (by omega), hs 5 m (by decide) (by decide) (by decide) (by decide) (by decide) (by omega), hs 6 m (by decide) (by decide) (by decide) (by decide) (by decide) (by omega), c5 0 m (by omega) (by omega), c5 1 m (by omega) (by omega), c5 2 m (by omega) (by omega), c5 3 m (by omega) (by omega)]
              exact ⟨g1, g2, g3, g4⟩
          · rw [sj 11 (by omega), e2c]; exact j5.2.1
          · rw [sj 11 (by omega), sj 12 (by omega), sj 13 (by omega), e2c]; exact j5.2.2.1
          · rw [sj 14 (by omega), sj 15 (by omega), e2c]; exact j5.2.2.2.1
          · rw [sj 16 (by omega), e2c]; exact j5.2.2.2.2
          · unfold OutJ at j8 ⊢
            rw [e2u, sj 29 (by omega), sj 30 (by omega), sj 31 (by omega), sj 32 (by omega), sj 33 (by omega), sj 34 (by omega), sj 35 (by omega)]
            exact j8
/-- a node that is made, on both sides -/
theorem J_land (hJ : Jn O x c u p f w q s l r E N A I eS S) (hn : 7000 ≤ n) {k a b z : Int32} {y : Option (Int32 × qS)} {y2 : qS → Option (Int32 × qS)} {tb : List (String × Int32)} (hk : ¬ k ≤ 4) (hm : MkF O n f S (S.1 r) k a b z y) (hL : Lay r S E N k a b z) (h9 : k = 9 → ∃ m, m < N ∧ rSnd k a b = nI m) (hr : ∀ T, T.1 r = S.1 r → ∃ v S', y2 T = some (v, S') ∧ Ans r T S' E N k a b z v) (ht : tb.find? (fun z => z.1 == xUOE) = some (xUOE, 3)) :
    CallOk (yC y (fun v4 S3 => tC (G_X_landed O n v4 S3) (fun v6 S5 => some (.inl v6, S5)))) y2 tb r (JE O x c u p f w q s l r) := by
  have hJ' := hJ
  obtain ⟨j1, j2, j3, j4, j5, j6, j7, j8⟩ := hJ
  obtain ⟨nc, nu, np, nf, _⟩ := Ref_ne j1 j2
  have fin : ∀ cv S1, y = some (cv, S1) → S1.1 r = S.1 r → ((¬ rPl (S.1 r) k a b z < 0 ∧ cv = rPl (S.1 r) k a b z ∧ S1 = S) ∨ (rPl (S.1 r) k a b z < 0 ∧ PutF O f E N S k (rFst k a b) (rSnd k a b) z cv S1)) → CallOk (yC y (fun v4 S3 => tC (G_X_landed O n v4 S3) (fun v6 S5 => some (.inl v6, S5)))) y2 tb r (JE O x c u p f w q s l r) := by
    intro cv S1 ey er hc
    obtain ⟨v, S2, e2, ha⟩ := hr S1 er
    rw [ey, yC_some]
    unfold G_X_landed
    rcases J_made hJ' hk hc ha with ⟨m1, m2, m3⟩ | ⟨m1, m2, m3, m4⟩
    · rw [if_pos m1, tC_inr]
      exact ⟨_, S1, v, S2, rfl, e2, m3, Or.inr ⟨xUOE, (xUOE, 3), rfl, ht, m2, by decide⟩⟩
    · rw [if_neg m1, tC_inl]
      exact ⟨_, S1, v, S2, rfl, e2, m4, Or.inl ⟨by rw [m2], m3⟩⟩
  unfold MkF at hm
  by_cases hp : rPl (S.1 r) k a b z < 0
  · rw [if_pos hp] at hm
    obtain ⟨cv, S1, e1, hP⟩ := cls_putF (n := n) hn j4.2.1 j4.1 (k := k) (a := rFst k a b) (b := rSnd k a b) (z := z) (fun _ => fun κ α β γ ag e0 e1 e2 e3 => hL κ α β γ (fun m hm' => by
      obtain ⟨g1, g2, g3, g4⟩ := ag m hm'
      obtain ⟨h1, h2, h3, h4⟩ := j5.1 m hm'
      exact ⟨g1.trans h1.symm, g2.trans h2.symm, g3.trans h3.symm, g4.trans h4.symm⟩) e0 e1 e2 e3 hp) h9
    refine fin cv S1 (hm.trans e1) ?_ (Or.inr ⟨hp, hP⟩)
    rcases hP with ⟨_, _, _, _, rfl⟩ | ⟨_, _, _, rfl⟩ | ⟨_, _, _, _, o, _⟩
    · rfl
    · rfl
    · exact o.2 r (fun y => nf y.symm)
  · rw [if_neg hp] at hm
    exact fin _ S hm rfl (Or.inl ⟨hp, rfl, rfl⟩)
/-- refused alike -/
theorem J_refuse (hJ : Jn O x c u p f w q s l r E N A I eS S) {y2 : qS → Option (Int32 × qS)} {tb : List (String × Int32)} {e : String} {t : Int32} (ht : tb.find? (fun z => z.1 == e) = some (e, t)) (h0 : ¬ t = 0) (hr : y2 S = some (0, thr S r t)) : CallOk (some (.inr e, S)) y2 tb r (JE O x c u p f w q s l r) :=
  ⟨_, S, 0, thr S r t, rfl, hr, ⟨E, N, A, I, eS, Jn_thr hJ⟩, Or.inr ⟨e, (e, t), rfl, ht, thr_0, h0⟩⟩
theorem J_equal (hJ : Jn O x c u p f w q s l r E N A I eS S) (hn : 7000 ≤ n) (a b : Int32) : CallOk (G_X_equal O n x a b S) (fun T => G_XModel_equal O n r a b T) tb3 r (JE O x c u p f w q s l r) := by
  have hO := hJ.1
  have h := hJ.2.1
  have hF := hJ.2.2.1.1.1
  have hC := hJ.2.2.2.1.1
  have hN31 := (CS_big hC).1
  have hN := hF.2.2.1
  obtain ⟨h1, h2, o1, o4, h3⟩ := ClO_f hO
  obtain ⟨r1, r2, r3⟩ := ref_equal (O := O) (n := n) h hn hF a b
  unfold G_X_equal
  rw [uk h1, cls_reqNode hO hC]
  cases ha : inN a N with
  | false => exact J_refuse hJ (e := xIOB) (t := 1) rfl (by decide) (r1 (by rw [ha]; simp))
  | true =>
    rw [cond_true, tW_inl, uk h1, cls_reqNode hO hC]
    cases hb : inN b N with
    | false => exact J_refuse hJ (e := xIOB) (t := 1) rfl (by decide) (r1 (by rw [ha, hb]; simp))
    | true =>
      rw [cond_true, tW_inl, uk h1, cls_reqWord hO hC, ha, Bool.true_and, fW_c hJ ha]
      cases wa : fW S r a with
      | false => exact J_refuse hJ (e := xIAE) (t := 2) rfl (by decide) (r2 (by rw [ha, hb]; rfl) (by rw [wa]; simp))
      | true =>
        rw [cond_true, tW_inl, uk h1, cls_reqWord hO hC, hb, Bool.true_and, fW_c hJ hb]
        cases wb : fW S r b with
        | false => exact J_refuse hJ (e := xIAE) (t := 2) rfl (by decide) (r2 (by rw [ha, hb]; rfl) (by rw [wa, wb]; simp))
        | true =>
          rw [cond_true, tW_inl, uO h1 (by decide), o1, uO h2 (by decide), o4, uk h3]
          obtain ⟨m, hm, rfl⟩ := (inN_iff hN31).mp ha
          obtain ⟨m', hm', rfl⟩ := (inN_iff hN31).mp hb
          refine J_land hJ hn (by decide) (mkF6 h3 (by omega) (by omega)) (lay_equal hF.2.2.2.2 (by omega) ha hb wa wb) (fun z => absurd z (by decide)) (fun T eT => ?_) rfl
          refine (ref_equal (O := O) (n := n) h hn (Face_eq eT hF) (nI m) (nI m')).2.2 (by rw [ha, hb]; rfl) ?_
          unfold fW at wa wb ⊢
          rw [eT, wa, wb]; rfl
theorem J_both (hJ : Jn O x c u p f w q s l r E N A I eS S) (hn : 7000 ≤ n) (a b : Int32) : CallOk (G_X_both O n x a b S) (fun T => G_XModel_both O n r a b T) tb3 r (JE O x c u p f w q s l r) := by
  have hO := hJ.1
  have h := hJ.2.1
  have hF := hJ.2.2.1.1.1
  have hC := hJ.2.2.2.1.1
  have hN31 := (CS_big hC).1
  have hN := hF.2.2.1
  obtain ⟨h1, h2, o1, o4, h3⟩ := ClO_f hO
  obtain ⟨r1, r2, r3⟩ := ref_both (O := O) (n := n) h hn hF a b
  unfold G_X_both
  rw [uk h1, cls_reqNode hO hC]
  cases ha : inN a N with
  | false => exact J_refuse hJ (e := xIOB) (t := 1) rfl (by decide) (r1 (by rw [ha]; simp))
  | true =>
    rw [cond_true, tW_inl, uk h1, cls_reqNode hO hC]
    cases hb : inN b N with
    | false => exact J_refuse hJ (e := xIOB) (t := 1) rfl (by decide) (r1 (by rw [ha, hb]; simp))
    | true =>
      rw [cond_true, tW_inl, uk h1, cls_reqTruth hO hC, ha, Bool.true_and, fW_c hJ ha]
      cases wa : fW S r a with
      | true => exact J_refuse hJ (e := xIAE) (t := 2) rfl (by decide) (r2 (by rw [ha, hb]; rfl) (by rw [wa]; simp))
      | false =>
        rw [cond_false, tW_inl, uk h1, cls_reqTruth hO hC, hb, Bool.true_and, fW_c hJ hb]
        cases wb : fW S r b with
        | true => exact J_refuse hJ (e := xIAE) (t := 2) rfl (by decide) (r2 (by rw [ha, hb]; rfl) (by rw [wa, wb]; simp))
        | false =>
          rw [cond_false, tW_inl, uO h1 (by decide), o1, uO h2 (by decide), o4, uk h3]
          obtain ⟨m, hm, rfl⟩ := (inN_iff hN31).mp ha
          obtain ⟨m', hm', rfl⟩ := (inN_iff hN31).mp hb
          refine J_land hJ hn (by decide) (mkF8 h3 (by omega) (by omega)) (lay_both hF.2.2.2.2 (by omega) ha hb wa wb) (fun z => absurd z (by decide)) (fun T eT => ?_) rfl
          refine (ref_both (O := O) (n := n) h hn (Face_eq eT hF) (nI m) (nI m')).2.2 (by rw [ha, hb]; rfl) ?_
          unfold fW at wa wb ⊢
          rw [eT, wa, wb]; rfl
theorem J_not (hJ : Jn O x c u p f w q s l r E N A I eS S) (hn : 7000 ≤ n) (a : Int32) : CallOk (G_X_not O n x a S) (fun T => G_XModel_not O n r a T) tb3 r (JE O x c u p f w q s l r) := by
  have hO := hJ.1
  have h := hJ.2.1
  have hF := hJ.2.2.1.1.1
  have hC := hJ.2.2.2.1.1
  have hN31 := (CS_big hC).1
  have hN := hF.2.2.1
  obtain ⟨h1, h2, o1, o4, h3⟩ := ClO_f hO
  obtain ⟨r1, r2, r3⟩ := ref_not (O := O) (n := n) h hn hF a
  unfold G_X_not
  rw [uk h1, cls_reqNode hO hC]
  cases ha : inN a N with
  | false => exact J_refuse hJ (e := xIOB) (t := 1) rfl (by decide) (r1 (by rw [ha]; simp))
  | true =>
    rw [cond_true, tW_inl, uk h1, cls_reqTruth hO hC, ha, Bool.true_and, fW_c hJ ha]
    cases wa : fW S r a with
    | true => exact J_refuse hJ (e := xIAE) (t := 2) rfl (by decide) (r2 ha (by rw [wa]; simp))
    | false =>
      rw [cond_false, tW_inl, uO h1 (by decide), o1, uO h2 (by decide), o4, uk h3]
      obtain ⟨m, hm, rfl⟩ := (inN_iff hN31).mp ha
      refine J_land hJ hn (by decide) (mkF7 hJ.2.2.2.1.2.1 hC (fun m hm => ⟨(hJ.2.2.2.2.1.1 m hm).1, (hJ.2.2.2.2.1.1 m hm).2.1⟩) hm) (lay_not hF.2.2.2.2 (by omega) ha wa) (fun z => absurd z (by decide)) (fun T eT => ?_) rfl
      refine (ref_not (O := O) (n := n) h hn (Face_eq eT hF) (nI m)).2.2 ha ?_
      unfold fW at wa ⊢
      rw [eT, wa]; rfl
theorem J_choice (hJ : Jn O x c u p f w q s l r E N A I eS S) (hn : 7000 ≤ n) (d a b : Int32) : CallOk (G_X_choice O n x d a b S) (fun T => G_XModel_choice O n r d a b T) tb3 r (JE O x c u p f w q s l r) := by
  have hO := hJ.1
  have h := hJ.2.1
  have hF := hJ.2.2.1.1.1
  have hC := hJ.2.2.2.1.1
  have hN31 := (CS_big hC).1
  have hN := hF.2.2.1
  obtain ⟨h1, h2, o1, o4, h3⟩ := ClO_f hO
  obtain ⟨r1, r2, r3⟩ := ref_choice (O := O) (n := n) h hn hF d a b
  unfold G_X_choice
  rw [uk h1, cls_reqNode hO hC]
  cases hd : inN d N with
  | false => exact J_refuse hJ (e := xIOB) (t := 1) rfl (by decide) (r1 (by rw [hd]; simp))
  | true =>
    rw [cond_true, tW_inl, uk h1, cls_reqNode hO hC]
    cases ha : inN a N with
    | false => exact J_refuse hJ (e := xIOB) (t := 1) rfl (by decide) (r1 (by rw [hd, ha]; simp))
    | true =>
      rw [cond_true, tW_inl, uk h1, cls_reqNode hO hC]
      cases hb : inN b N with
      | false => exact J_refuse hJ (e := xIOB) (t := 1) rfl (by decide) (r1 (by rw [hd, ha, hb]; simp))
      | true =>
        rw [cond_true, tW_inl, uk h1, cls_reqTruth hO hC, hd, Bool.true_and, fW_c hJ hd]
        cases wd' : fW S r d with
        | true => exact J_refuse hJ (e := xIAE) (t := 2) rfl (by decide) (r2 (by rw [hd, ha, hb]; rfl) (by rw [wd']; simp))
        | false =>
          rw [cond_false, tW_inl, uk h1, cls_reqSame hO hC, ha, hb, Bool.true_and, Bool.true_and, fW_c hJ ha, fW_c hJ hb]
          cases we : (fW S r a == fW S r b) with
          | false => exact J_refuse hJ (e := xIAE) (t := 2) rfl (by decide) (r2 (by rw [hd, ha, hb]; rfl) (by rw [wd', we]; simp))
          | true =>
            rw [cond_true, tW_inl, uO h1 (by decide), o1, uO h2 (by decide), o4, uk h3]
            obtain ⟨m, hm, rfl⟩ := (inN_iff hN31).mp ha
            obtain ⟨m', hm', rfl⟩ := (inN_iff hN31).mp hb
            refine J_land hJ hn (by decide) (mkF9 h3 (by omega) (by omega)) (lay_choice hF.2.2.2.2 (by omega) hd ha hb wd' (eq_of_beq we)) (fun _ => ⟨m, hm, (rF_n 9 d (nI m) (by decide) (by decide)).2⟩) (fun T eT => ?_) rfl
            refine (ref_choice (O := O) (n := n) h hn (Face_eq eT hF) d (nI m) (nI m')).2.2 (by rw [hd, ha, hb]; rfl) ?_
            unfold fW at wd' we ⊢
            rw [eT, wd', we]; rfl
theorem J_apply (hJ : Jn O x c u p f w q s l r E N A I eS S) (hn : 7000 ≤ n) (g a b : Int32) : CallOk (G_X_apply O n x g a b S) (fun T => G_XModel_apply O n r g a b T) tb3 r (JE O x c u p f w q s l r) := by
  have hO := hJ.1
  have h := hJ.2.1
  have hF := hJ.2.2.1.1.1
  have hC := hJ.2.2.2.1.1
  have hN31 := (CS_big hC).1
  have hN := hF.2.2.1
  obtain ⟨h1, h2, o1, o4, h3⟩ := ClO_f hO
  obtain ⟨r1, r2, r3⟩ := ref_apply (O := O) (n := n) h hn hF g a b
  unfold G_X_apply
  rw [uk h1, cls_reqNode hO hC]
  cases ha : inN a N with
  | false => exact J_refuse hJ (e := xIOB) (t := 1) rfl (by decide) (r1 (by rw [ha]; simp))
  | true =>
    rw [cond_true, tW_inl]
    -- the second part is there, or none is told
    have rest : inO b N = true → CallOk (G_X_apply_15 O n x g a b S) (fun T => G_XModel_apply O n r g a b T) tb3 r (JE O x c u p f w q s l r) := by
      intro hb
      have bad : ¬ ((decide (0 ≤ g) && decide (g ≤ 7)) && (fW S r a && (decide (b = -1) || fW S r b))) = true → CallOk (some (.inr xIAE, S)) (fun T => G_XModel_apply O n r g a b T) tb3 r (JE O x c u p f w q s l r) := fun z => J_refuse hJ (e := xIAE) (t := 2) rfl (by decide) (r2 (by rw [ha, hb]; rfl) z)
      unfold G_X_apply_15 G_X_apply_25
      by_cases g0 : g < 0
      · rw [if_pos g0]
        refine bad (fun z => ?_)
        rw [Bool.and_eq_true, Bool.and_eq_true, decide_eq_true_iff] at z
        exact absurd g0 (Int32.not_lt.mpr z.1.1)
      · rw [if_neg g0]
        obtain ⟨gn, hgn, rfl⟩ := nI_of g0
        by_cases g8 : gn < 8
        · rw [if_pos (show nI gn < (8 : Int32) from (nI_ltI (a := gn) (b := 8) hgn (by decide)).mpr g8)]
          have gok : (decide (0 ≤ nI gn) && decide (nI gn ≤ 7)) = true := by
            rw [Bool.and_eq_true, decide_eq_true_iff, decide_eq_true_iff]
            exact ⟨Int32.not_lt.mp g0, nI_le (b := 7) (by omega) (by decide)⟩
          rw [uk h1, cls_reqWord hO hC, ha, Bool.true_and, fW_c hJ ha]
          cases wa : fW S r a with
          | false => exact bad (by rw [wa, gok]; simp)
          | true =>
            rw [cond_true, tW_inl]
            have make : (decide (b = -1) || fW S r b) = true → CallOk (G_X_apply_50 O n x (nI gn) a b S) (fun T => G_XModel_apply O n r (nI gn) a b T) tb3 r (JE O x c u p f w q s l r) := by
              intro wb
              unfold G_X_apply_50
              rw [uO h1 (by decide), o1, uO h2 (by decide), o4, uk h3]
              refine J_land hJ hn (by decide) (mkF5 h3) (lay_apply hF.2.2.2.2 (by omega) gok ha hb wa wb) (fun z => absurd z (by decide)) (fun T eT => ?_) rfl
              refine (ref_apply (O := O) (n := n) h hn (Face_eq eT hF) (nI gn) a b).2.2 (by rw [ha, hb]; rfl) ?_
              unfold fW at wa wb ⊢
              rw [eT, gok, wa, wb]; rfl
            by_cases b1 : b = -1
            · rw [if_pos b1]
              exact make (by rw [decide_eq_true b1]; rfl)
            · have hb' : inN b N = true := by
                unfold inO at hb
                rw [decide_eq_false b1, Bool.false_or] at hb
                exact hb
              rw [if_neg b1, uk h1, cls_reqWord hO hC, hb', Bool.true_and, fW_c hJ hb']
              cases wb : fW S r b with
              | false => exact bad (by rw [wa, gok, wb, decide_eq_false b1]; simp)
              | true =>
                rw [cond_true, tW_inl]
                exact make (by rw [wb, Bool.or_true])
        · rw [if_neg (show ¬ nI gn < (8 : Int32) from fun z => g8 ((nI_ltI (a := gn) (b := 8) hgn (by decide)).mp z))]
          refine bad (fun z => ?_)
          rw [Bool.and_eq_true, Bool.and_eq_true, decide_eq_true_iff, decide_eq_true_iff] at z
          have := (nI_leI (a := gn) (b := 7) hgn (by decide)).mp z.1.2
          omega
    by_cases b1 : b = -1
    · rw [if_pos b1]
      exact rest (by unfold inO; rw [decide_eq_true b1]; rfl)
    · rw [if_neg b1, uk h1, cls_reqNode hO hC]
      cases hb : inN b N with
      | false => exact J_refuse hJ (e := xIOB) (t := 1) rfl (by decide) (r1 (by unfold inO; rw [ha, hb, decide_eq_false b1]; simp))
      | true =>
        rw [cond_true, tW_inl]
        exact rest (by unfold inO; rw [hb, Bool.or_true])
end CALLS
