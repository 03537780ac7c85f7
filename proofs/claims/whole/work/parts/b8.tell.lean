/-! NEXT, PLAIN, INVARIANT ON BOTH SIDES -/
abbrev tb2 : List (String × Int32) := [("java/lang/IndexOutOfBoundsException", 1), ("java/lang/IllegalArgumentException", 2)]
abbrev tbi : List (String × Int32) := [("java/lang/IndexOutOfBoundsException", 1), ("java/lang/IllegalArgumentException", 2), ("java/lang/IllegalStateException", 3)]
theorem beq_swap (a b : Bool) : (a == b) = (b == a) := by cases a <;> cases b <;> rfl
theorem seenN_upd {g : Nat → Int32} {e : Nat} : ∀ {E : Nat}, (e < E → seenN (upd1 g e 1) E = seenN g E + (if g e = 0 then 1 else 0)) ∧ (E ≤ e → seenN (upd1 g e 1) E = seenN g E) := by
  intro E
  induction E with
  | zero => exact ⟨fun h => absurd h (Nat.not_lt_zero e), fun _ => rfl⟩
  | succ E ih =>
    have st : ∀ g : Nat → Int32, seenN g (E + 1) = seenN g E + (if g E = 0 then 0 else 1) := fun _ => rfl
    rw [st, st]
    refine ⟨fun h => ?_, fun h => ?_⟩
    · by_cases z : e = E
      · subst z
        have e1 : upd1 g e 1 e = 1 := if_pos rfl
        rw [ih.2 (Nat.le_refl e), e1, if_neg (by decide)]
        by_cases y : g e = 0
        · rw [if_pos y, if_pos y]
        · rw [if_neg y, if_neg y]
      · have e1 : upd1 g e 1 E = g E := if_neg (fun y => z y.symm)
        rw [ih.1 (by omega), e1]
        omega
    · have e1 : upd1 g e 1 E = g E := if_neg (by omega)
      rw [ih.2 (by omega), e1]
theorem seenN_le {g : Nat → Int32} : ∀ E, seenN g E ≤ E := by
  intro E
  induction E with
  | zero => exact Nat.le_refl 0
  | succ E ih =>
    show seenN g E + (if g E = 0 then 0 else 1) ≤ E + 1
    by_cases y : g E = 0
    · rw [if_pos y]; omega
    · rw [if_neg y]; omega
section TELLS
variable {O : qOb9} {x c u p f w q s l r n E N A I I' : Nat} {S S' : qS} {eS : Nat → Bool}
theorem RI_mk (hR : RI r E N A I S eS) (hs : ∀ j, (j = 1 ∨ j = 2 ∨ j = 3 ∨ j = 4 ∨ j = 5 ∨ j = 6 ∨ j = 9 ∨ j = 11) → S'.1 r j = S.1 r j) (h21 : ∀ m, S'.1 r 21 m = 0 ∨ S'.1 r 21 m = 1) (n5 : NxOk r E N S' eS) (n6 : ∀ e, S'.1 r 13 e = 0 ∨ S'.1 r 13 e = 1) (n7 : ∀ e, S'.1 r 15 e = 0 ∨ S'.1 r 15 e = 1) (n8 : ∀ e, E ≤ e → S'.1 r 13 e = 0 ∧ S'.1 r 15 e = 0) (n9 : ∀ e, e < E → ¬ S'.1 r 15 e = 0 → ∃ m, m < N ∧ S'.1 r 14 e = nI m ∧ wd (S.1 r 3) (S.1 r 5) m = eS e ∧ hf (S.1 r 3) (S.1 r 4) (S.1 r 5) (S.1 r 6) m = false) (n10 : S'.1 r 10 0 = nI I') (n11 : I' ≤ 8) (n12 : ∀ k, k < I' → ∃ m, m < N ∧ S'.1 r 16 k = nI m ∧ wd (S.1 r 3) (S.1 r 5) m = false ∧ hf (S.1 r 3) (S.1 r 4) (S.1 r 5) (S.1 r 6) m = false) : RI r E N A I' S' eS := by
  obtain ⟨⟨⟨f1, f2, f3, f4, f5⟩, g2, g3, g4, g5, g6⟩, i2, i3, i4, _⟩ := hR
  unfold RI FaceA Face ElO
  rw [hs 1 (by omega), hs 2 (by omega), hs 3 (by omega), hs 4 (by omega), hs 5 (by omega), hs 6 (by omega), hs 9 (by omega), hs 11 (by omega)]
  exact ⟨⟨⟨f1, f2, f3, f4, f5⟩, g2, g3, g4, g5, h21⟩, i2, i3, i4, n5, n6, n7, n8, n9, n10, n11, n12⟩
theorem CoI_mk (hI : CoI O c f E N I S eS) (hf' : S'.1 f = S.1 f) (h6 : S'.1 c 6 = S.1 c 6) (h1 : S'.1 c 1 = S.1 c 1) (n2 : ∀ e, e < E → S'.1 c 2 e = -1 ∨ ∃ m, m < N ∧ S'.1 c 2 e = nI m ∧ cWd S f m = eS e) (n3 : ∀ e, e < E → S'.1 c 3 e = -1 ∨ ∃ m, m < N ∧ S'.1 c 3 e = nI m ∧ cWd S f m = eS e ∧ hf (S.1 f 0) (S.1 f 1) (S.1 f 2) (S.1 f 3) m = false) (n8 : S'.1 c 8 0 = nI I') (n9 : I' ≤ 8) (n10 : ∀ k, k < I' → ∃ m, m < N ∧ S'.1 c 4 k = nI m ∧ cWd S f m = false ∧ hf (S.1 f 0) (S.1 f 1) (S.1 f 2) (S.1 f 3) m = false) : CoI O c f E N I' S' eS := by
  obtain ⟨i1, i2, i3, i4, i5, _⟩ := hI
  unfold CoI CS cWd at *
  rw [hf', h6, h1]
  exact ⟨i1, i2, i3, i4, i5, n2, n3, n8, n9, n10⟩
/-- an element's sort on both sides -/
theorem el_sort (hJ : Jn O x c u p f w q s l r E N A I eS S) {e : Nat} (he : e < E) : ∃ m, m < N ∧ S.1 c 1 e = nI m ∧ fW S r (nI m) = eW S r (nI e) ∧ fW S r (nI m) = eS e := by
  obtain ⟨_, _, j3, j4, j5, _⟩ := hJ
  have hN31 := (CS_big j4.1).1
  have hE := j4.2.1
  obtain ⟨m, hm, em, kk, ea, ws⟩ := j3.2.1 e he
  have w1 : fW S r (nI m) = decide (S.1 r 3 m = 3) := by
    unfold fW
    rw [nI_clamp (by omega)]
    exact wd_el kk
  refine ⟨m, hm, (j5.2.1 e he).symm.trans em, ?_, ?_⟩
  · rw [w1]
    unfold eW
    rw [nI_clamp (by omega), em, nI_clamp (by omega)]
  · rw [w1]
    cases y : eS e with
    | true => exact decide_eq_true (ws.mpr y)
    | false => exact decide_eq_false (fun z => by rw [ws.mp z] at y; cases y)
theorem Els_R (hR : RI r E N A I S eS) : Els r S E N := fun e he => by
  obtain ⟨m, hm, em, kk, ea, _⟩ := hR.2.1 e he
  exact ⟨m, hm, em, kk, ea⟩
theorem RI_eq {T : qS} (h : T.1 r = S.1 r) (hR : RI r E N A I S eS) : RI r E N A I T eS := by
  unfold RI FaceA Face ElO NxOk at *
  rw [h]; exact hR
theorem up3_c {j i : Nat} {v : Int32} : (∀ j', j' ≠ j → ((up3 S.1 c j i v, S.2) : qS).1 c j' = S.1 c j') ∧ ∀ i', ((up3 S.1 c j i v, S.2) : qS).1 c j i' = if i' = i then v else S.1 c j i' := ⟨fun j' hj => up3_f hj, fun i' => up3_same _ _ _ _ _ _⟩
theorem J_next (hJ : Jn O x c u p f w q s l r E N A I eS S) (hn : 7000 ≤ n) (e a : Int32) : CallOk (G_X_next O n x e a S) (fun T => G_XModel_next O n r e a T) tb2 r (JE O x c u p f w q s l r) := by
  have hJ' := hJ
  obtain ⟨j1, j2, j3, j4, j5, j6, j7, j8⟩ := hJ
  obtain ⟨nc, nu, np, nf, _⟩ := Ref_ne j1 j2
  have NE := fun _ : Unit => ClO_ne j1
  have hF := j3.1.1
  have hC := j4.1
  have hE := j4.2.1
  have hN := hC.2.2.1
  have hN31 := (CS_big hC).1
  obtain ⟨h1, h2, o1, o4, h3⟩ := ClO_f j1
  have lens := j1.2.2.2.1
  have rf := fun (T : qS) (eT : T.1 r = S.1 r) => ref_next (O := O) (n := n) j2 hn (Face_eq eT hF) (Els_R (RI_eq eT j3)) (fun e _ => by rw [eT]; exact j3.2.2.2.2.2.1 e) e a
  have r0 := rf S rfl
  unfold G_X_next
  rw [uk h1, cls_reqElem j1 j4.2.2.1 hE]
  cases he : inN e E with
  | false => exact J_refuse hJ' (e := xIOB) (t := 1) rfl (by decide) (by rw [r0, he]; rfl)
  | true =>
    rw [cond_true, tW_inl, uk h1, cls_reqNode j1 hC]
    cases ha : inN a N with
    | false => exact J_refuse hJ' (e := xIOB) (t := 1) rfl (by decide) (by rw [r0, he, ha]; rfl)
    | true =>
      obtain ⟨en, hen, rfl⟩ := (inN_iff (by omega)).mp he
      obtain ⟨ma, hma, rfl⟩ := (inN_iff hN31).mp ha
      obtain ⟨m, hm, em, ws, es⟩ := el_sort hJ' hen
      have l1 : en < oN O c 1 := by rw [lens.1]; omega
      have l2 : en < oN O c 2 := by rw [lens.2.1]; omega
      have hm' : inN (nI m) N = true := inN_nI (by omega) hm
      rw [cond_true, tW_inl, uO h1 (by decide), o1, uA h2 (by decide), ul h2 (by decide) l1 (by omega), em, uk h1, cls_reqSame j1 hC, hm', ha, Bool.true_and, Bool.true_and, fW_c hJ' hm', fW_c hJ' ha, ws, beq_swap]
      cases we : (fW S r (nI ma) == eW S r (nI en)) with
      | false => exact J_refuse hJ' (e := xIAE) (t := 2) rfl (by decide) (by rw [r0, he, ha, we]; rfl)
      | true =>
        have wa : fW S r (nI ma) = eS en := by rw [eq_of_beq we, ← ws]; exact es
        have wr : wd (S.1 r 3) (S.1 r 5) ma = eS en := by
          rw [← wa]; unfold fW; rw [nI_clamp (by omega)]
        have wc' : cWd S f ma = eS en := by
          have := fW_c hJ' ha
          rw [nI_clamp (by omega)] at this
          rw [this]; exact wa
        rw [cond_true, tW_inl, uO h1 (by decide), o1, uk h2]
        have tell : yC (G_XCore_tellNext O n c (nI en) (nI ma) S) (fun v9 S8 => hzx v9 S8) = some (.inl (S.1 r 13 en), (up3 S.1 c 2 en (nI ma), S.2)) := by
          unfold G_XCore_tellNext G_XCore_tellNext_15
          rw [uA h2 (by decide), ul h2 (by decide) l2 (by omega)]
          rcases j5.2.2.1 en hen with ⟨z1, z2, _⟩ | ⟨z1, z2, _⟩
          · rw [if_pos z1, uA h2 (by decide), uw h2 (by decide) l2 (by omega), z2]; rfl
          · rw [if_neg z1, uA h2 (by decide), uw h2 (by decide) l2 (by omega), z2]; rfl
        rw [tell]
        obtain ⟨cj, c2⟩ := up3_c (S := S) (c := c) (j := 2) (i := en) (v := nI ma)
        have o1' : rOnly c S (up3 S.1 c 2 en (nI ma), S.2) := rOnly.up
        generalize ((up3 S.1 c 2 en (nI ma), S.2) : qS) = S1 at cj c2 o1' ⊢
        have e1r : S1.1 r = S.1 r := o1'.2 r (fun y => nc y.symm)
        have r1 := rf S1 e1r
        rw [he, ha] at r1
        have we1 : (fW S1 r (nI ma) == eW S1 r (nI en)) = true := by
          unfold fW eW at we ⊢
          rw [e1r]; exact we
        rw [we1, nI_clamp (show en < 2 ^ 31 by omega)] at r1
        have o2 : rOnly r S1 (setF (setF (thr S1 r 0) r 12 (upd1 (S1.1 r 12) en (nI ma))) r 13 (upd1 (S1.1 r 13) en 1)) := (thr_only.trans setF_only).trans setF_only
        have k13 : (setF (setF (thr S1 r 0) r 12 (upd1 (S1.1 r 12) en (nI ma))) r 13 (upd1 (S1.1 r 13) en 1)).1 r 13 = upd1 (S.1 r 13) en 1 := by rw [setF_same, e1r]
        have k12 : (setF (setF (thr S1 r 0) r 12 (upd1 (S1.1 r 12) en (nI ma))) r 13 (upd1 (S1.1 r 13) en 1)).1 r 12 = upd1 (S.1 r 12) en (nI ma) := by rw [setF_ne (by decide), setF_same, e1r]
        have k0 : (setF (setF (thr S1 r 0) r 12 (upd1 (S1.1 r 12) en (nI ma))) r 13 (upd1 (S1.1 r 13) en 1)).1 r 0 0 = 0 := by rw [setF_ne (by decide), setF_ne (by decide)]; exact thr_0
        have kj : ∀ j, j ≠ 0 → j ≠ 12 → j ≠ 13 → (setF (setF (thr S1 r 0) r 12 (upd1 (S1.1 r 12) en (nI ma))) r 13 (upd1 (S1.1 r 13) en 1)).1 r j = S.1 r j := fun j h0 h12 h13 => by rw [setF_ne h13, setF_ne h12, thr_f h0, e1r]
        generalize setF (setF (thr S1 r 0) r 12 (upd1 (S1.1 r 12) en (nI ma))) r 13 (upd1 (S1.1 r 13) en 1) = S2 at r1 o2 k13 k12 k0 kj
        have e2c : S2.1 c = S1.1 c := o2.2 c nc
        have e2f : S2.1 f = S.1 f := by rw [o2.2 f nf, o1'.2 f (fun y => (NE ()).1.2.2.1 y.symm)]
        have e2u : S2.1 u = S.1 u := by rw [o2.2 u nu, o1'.2 u (fun y => (NE ()).1.2.2.2.2.2.2 y.symm)]
        have e2p : S2.1 p = S.1 p := by rw [o2.2 p np, o1'.2 p (fun y => (NE ()).1.1 y.symm)]
        have u13 : ∀ i, upd1 (S.1 r 13) en 1 i = if i = en then 1 else S.1 r 13 i := fun _ => rfl
        have u12 : ∀ i, upd1 (S.1 r 12) en (nI ma) i = if i = en then nI ma else S.1 r 12 i := fun _ => rfl
        refine ⟨_, S1, S1.1 r 13 en, S2, rfl, r1, ⟨E, N, A, I, eS, j1, j2, ?_, ?_, ⟨?_, ?_, ?_, ?_, ?_⟩, ⟨by rw [e2p]; exact j6.1, by rw [e2c, cj 5 (by decide)]; exact j6.2⟩, by rw [e2c, cj 7 (by decide), kj 15 (by decide) (by decide) (by decide)]; exact j7, ?_⟩, Or.inl ⟨by rw [e1r], k0⟩⟩
        · obtain ⟨i1, i2, i3, i4, i5, i6, i7, i8, i9, i10, i11, i12⟩ := j3
          refine RI_mk ⟨i1, i2, i3, i4, i5, i6, i7, i8, i9, i10, i11, i12⟩ (fun j hj => kj j (by omega) (by omega) (by omega)) (fun m => by rw [kj 21 (by decide) (by decide) (by decide)]; exact i1.2.2.2.2.2 m) (fun e' he' => ?_) (fun e' => ?_) (fun e' => by rw [kj 15 (by decide) (by decide) (by decide)]; exact i7 e') (fun e' he' => ?_) (fun e' he' => ?_) (by rw [kj 10 (by decide) (by decide) (by decide)]; exact i10) i11 (fun k hk => by rw [kj 16 (by decide) (by decide) (by decide)]; exact i12 k hk)
          · rw [k12, u12, kj 3 (by decide) (by decide) (by decide), kj 5 (by decide) (by decide) (by decide)]
            by_cases z : e' = en
            · rw [if_pos z, z]; exact ⟨ma, hma, rfl, wr⟩
            · rw [if_neg z]; exact i5 e' he'
          · rw [k13, u13]
            by_cases z : e' = en
            · rw [if_pos z]; exact Or.inr rfl
            · rw [if_neg z]; exact i6 e'
          · rw [k13, u13, if_neg (by omega), kj 15 (by decide) (by decide) (by decide)]; exact i8 e' he'
          · rw [kj 15 (by decide) (by decide) (by decide), kj 14 (by decide) (by decide) (by decide)]; exact i9 e' he'
        · obtain ⟨i1, i2, i3, i4, i5, i6, i7, i8, i9, i10⟩ := j4
          refine CoI_mk ⟨i1, i2, i3, i4, i5, i6, i7, i8, i9, i10⟩ e2f (by rw [e2c]; exact cj 6 (by decide)) (by rw [e2c]; exact cj 1 (by decide)) (fun e' he' => ?_) (fun e' he' => by rw [e2c, cj 3 (by decide)]; exact i7 e' he') (by rw [e2c, cj 8 (by decide)]; exact i8) i9 (fun k hk => by rw [e2c, cj 4 (by decide)]; exact i10 k hk)
          rw [e2c, c2]
          by_cases z : e' = en
          · rw [if_pos z, z]; exact Or.inr ⟨ma, hma, rfl, wc'⟩
          · rw [if_neg z]; exact i6 e' he'
        · rw [e2f, kj 3 (by decide) (by decide) (by decide), kj 4 (by decide) (by decide) (by decide), kj 5 (by decide) (by decide) (by decide), kj 6 (by decide) (by decide) (by decide)]; exact j5.1
        · rw [e2c, cj 1 (by decide), kj 11 (by decide) (by decide) (by decide)]; exact j5.2.1
        · intro e' he'
          rw [e2c, c2, k13, u13, k12, u12, kj 11 (by decide) (by decide) (by decide)]
          by_cases z : e' = en
          · rw [if_pos z, if_pos z, if_pos z]
            refine Or.inr ⟨fun y => ?_, rfl, rfl⟩
            have := nI_pos (show ma < 2 ^ 31 by omega)
            rw [y] at this
            exact this (by decide)
          · rw [if_neg z, if_neg z, if_neg z]; exact j5.2.2.1 e' he'
        · rw [e2c, cj 3 (by decide), kj 15 (by decide) (by decide) (by decide), kj 14 (by decide) (by decide) (by decide)]; exact j5.2.2.2.1
        · rw [e2c, cj 4 (by decide), kj 16 (by decide) (by decide) (by decide)]; exact j5.2.2.2.2
        · unfold OutJ at j8 ⊢
          rw [e2u, kj 29 (by decide) (by decide) (by decide), kj 30 (by decide) (by decide) (by decide), kj 31 (by decide) (by decide) (by decide), kj 32 (by decide) (by decide) (by decide), kj 33 (by decide) (by decide) (by decide), kj 34 (by decide) (by decide) (by decide), kj 35 (by decide) (by decide) (by decide)]
          exact j8
end TELLS
