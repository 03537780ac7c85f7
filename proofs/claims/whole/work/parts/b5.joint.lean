/-! BOTH SIDES BETWEEN CALLS -/
/-- the latest answer is the same -/
def OutJ (u r : Nat) (S : qS) : Prop := S.1 u 5 0 = S.1 r 29 0 ∧ S.1 u 6 0 = S.1 r 30 0 ∧
  ((¬ S.1 u 1 0 = 0 ∧ S.1 r 31 0 = 0) ∨ (S.1 u 1 0 = 0 ∧ S.1 r 31 0 = 1 ∧ ∃ W, W ≤ 16 ∧ S.1 u 2 0 = nI W ∧ S.1 r 35 0 = nI W ∧ (∀ a, a < W → S.1 u 0 a = S.1 r 32 a) ∧ S.1 u 3 0 = S.1 r 33 0 ∧ S.1 u 4 0 = S.1 r 34 0))
def Jn (O : qOb9) (x c u p f w q s l r E N A I : Nat) (eS : Nat → Bool) (S : qS) : Prop :=
  ClO O x c u p f w q s l ∧ Ref O r ∧ RI r E N A I S eS ∧ CoI O c f E N I S eS ∧ Rel r c f E N I S ∧ ((∀ m, S.1 p 3 m = 0 ∨ S.1 p 3 m = 1) ∧ ∀ m, S.1 c 5 m = 0 ∨ S.1 c 5 m = 1) ∧ S.1 c 7 0 = nI (seenN (S.1 r 15) E) ∧ OutJ u r S
section JOINT
variable {O : qOb9} {x c u p f w q s l r n E N A I : Nat} {S S' : qS} {eS : Nat → Bool}
theorem Ref_C (h : Ref O r) : oC O r = 1 := h.1
/-- the reference is none of the class's objects -/
theorem Ref_ne (hO : ClO O x c u p f w q s l) (h : Ref O r) : c ≠ r ∧ u ≠ r ∧ p ≠ r ∧ f ≠ r ∧ w ≠ r ∧ q ≠ r ∧ s ≠ r ∧ l ≠ r := by
  have h0 := Ref_C h
  obtain ⟨⟨h1, h2, h3, h4, h5, h6, h7⟩, _, ⟨n1, n2, _⟩, _⟩ := hO
  have f1 := n1.1
  have w1 := n2.1
  refine ⟨?_, ?_, ?_, ?_, ?_, ?_, ?_, ?_⟩ <;> apply oC_ne (O := O) <;> omega
theorem Store_pB {κ α β γ : Nat → Int32} (hE : E ≤ 16) (hS : Store κ α β γ E N) (hN : N ≤ 6400) : ∀ m, m < N → pB (α m) ∧ pB (β m) ∧ pB (γ m) := by
  intro m hm
  have neg : pB (-1) := Or.inl (by decide)
  have pn : ∀ x, x < 6400 → pB (nI x) := fun x hx => Or.inr ⟨x, hx, rfl⟩
  rcases hS.2.1 m hm with ⟨h0, -, z1, z2, z3⟩ | ⟨h0, z | z | z | z | z | z⟩
  · rw [z1, z2, z3]; exact ⟨neg, neg, neg⟩
  · obtain ⟨_, ⟨e, he, z1⟩, z2, z3⟩ := z
    rw [z1, z2, z3]; exact ⟨pn e (by omega), neg, neg⟩
  · obtain ⟨_, ⟨x, hx, z1, _⟩, z2, g, hg, z3⟩ := z
    rw [z1, z3]
    refine ⟨pn x (by omega), ?_, pn g (by omega)⟩
    rcases z2 with z2 | ⟨y, hy, z2, _⟩
    · rw [z2]; exact neg
    · rw [z2]; exact pn y (by omega)
  · obtain ⟨_, ⟨x, y, hx, hy, z1, z2, _⟩, z3⟩ := z
    rw [z1, z2, z3]; exact ⟨pn x (by omega), pn y (by omega), neg⟩
  · obtain ⟨_, ⟨x, _, hx, z1, _⟩, z2, z3⟩ := z
    rw [z1, z2, z3]; exact ⟨pn x (by omega), neg, neg⟩
  · obtain ⟨_, ⟨x, y, _, hx, hy, z1, z2, _⟩, z3⟩ := z
    rw [z1, z2, z3]; exact ⟨pn x (by omega), pn y (by omega), neg⟩
  · obtain ⟨_, x, y, z, _, hx, hy, hz, _, z1, z2, z3, _⟩ := z
    rw [z1, z2, z3]; exact ⟨pn x (by omega), pn y (by omega), pn z (by omega)⟩
/-- the reference's fields but thrown, chains, count and marks are as they were -/
theorem RI_keep {A' : Nat} (hR : RI r E N A I S eS) (hs : ∀ j, j ≠ 0 → j ≠ 2 → j ≠ 7 → j ≠ 8 → j ≠ 21 → S'.1 r j = S.1 r j) (h2 : S'.1 r 2 0 = nI A') (hNA : N ≤ A') (hA' : A' ≤ A ∨ A' = N) (h21 : ∀ m, S'.1 r 21 m = 0 ∨ S'.1 r 21 m = 1) : RI r E N A' I S' eS := by
  have hF := hR.1
  refine RI_same hR ⟨fun j hj => hs j (by omega) (by omega) (by omega) (by omega) (by omega), fun m _ => ⟨by rw [hs 3 (by decide) (by decide) (by decide) (by decide) (by decide)], by rw [hs 4 (by decide) (by decide) (by decide) (by decide) (by decide)], by rw [hs 5 (by decide) (by decide) (by decide) (by decide) (by decide)], by rw [hs 6 (by decide) (by decide) (by decide) (by decide) (by decide)]⟩⟩ h2 hNA (by have := hF.2.2.2.1; have := hF.2.2.1; omega) (fun m hm => ?_) h21
  rw [hs 4 (by decide) (by decide) (by decide) (by decide) (by decide), hs 5 (by decide) (by decide) (by decide) (by decide) (by decide), hs 6 (by decide) (by decide) (by decide) (by decide) (by decide)]
  exact hF.2.2.2.2.1 m (by have := hF.2.2.1; omega)
/-- a change of the reference's that leaves the face as it is -/
theorem Jn_r {A' : Nat} (hJ : Jn O x c u p f w q s l r E N A I eS S) (ho : rOnly r S S') (hs : ∀ j, j ≠ 0 → j ≠ 2 → j ≠ 7 → j ≠ 8 → j ≠ 21 → S'.1 r j = S.1 r j) (h2 : S'.1 r 2 0 = nI A') (hNA : N ≤ A') (hA' : A' ≤ A ∨ A' = N) (h21 : ∀ m, S'.1 r 21 m = 0 ∨ S'.1 r 21 m = 1) : Jn O x c u p f w q s l r E N A' I eS S' := by
  obtain ⟨j1, j2, j3, j4, j5, j6, j7, j8⟩ := hJ
  obtain ⟨nc, nu, np, nf, _⟩ := Ref_ne j1 j2
  have ec := ho.2 c nc
  have eu := ho.2 u nu
  have ep := ho.2 p np
  have ef := ho.2 f nf
  refine ⟨j1, j2, RI_keep j3 hs h2 hNA hA' h21, CoI_same j4 ec ef, ?_, ?_, ?_, ?_⟩
  · unfold Rel at j5 ⊢
    rw [ec, ef, hs 3 (by decide) (by decide) (by decide) (by decide) (by decide), hs 4 (by decide) (by decide) (by decide) (by decide) (by decide), hs 5 (by decide) (by decide) (by decide) (by decide) (by decide), hs 6 (by decide) (by decide) (by decide) (by decide) (by decide), hs 11 (by decide) (by decide) (by decide) (by decide) (by decide), hs 12 (by decide) (by decide) (by decide) (by decide) (by decide), hs 13 (by decide) (by decide) (by decide) (by decide) (by decide), hs 14 (by decide) (by decide) (by decide) (by decide) (by decide), hs 15 (by decide) (by decide) (by decide) (by decide) (by decide), hs 16 (by decide) (by decide) (by decide) (by decide) (by decide)]
    exact j5
  · rw [ep, ec]; exact j6
  · rw [ec, hs 15 (by decide) (by decide) (by decide) (by decide) (by decide)]; exact j7
  · unfold OutJ at j8 ⊢
    rw [eu, hs 29 (by decide) (by decide) (by decide) (by decide) (by decide), hs 30 (by decide) (by decide) (by decide) (by decide) (by decide), hs 31 (by decide) (by decide) (by decide) (by decide) (by decide), hs 32 (by decide) (by decide) (by decide) (by decide) (by decide), hs 33 (by decide) (by decide) (by decide) (by decide) (by decide), hs 34 (by decide) (by decide) (by decide) (by decide) (by decide), hs 35 (by decide) (by decide) (by decide) (by decide) (by decide)]
    exact j8
theorem Jn_thr (hJ : Jn O x c u p f w q s l r E N A I eS S) {v : Int32} : Jn O x c u p f w q s l r E N A I eS (thr S r v) := by
  have hF := hJ.2.2.1.1
  refine Jn_r hJ thr_only (fun j h0 _ _ _ _ => thr_f h0) (by rw [thr_f (by decide)]; exact hF.2.1) hF.2.2.1 (Or.inl (Nat.le_refl A)) (fun m => by rw [thr_f (by decide)]; exact hF.2.2.2.2.2 m)
/-- marks of the class's face -/
theorem Jn_c5 (hJ : Jn O x c u p f w q s l r E N A I eS S) {D : Nat → Int32} (hD : ∀ m, D m = 0 ∨ D m = 1) : Jn O x c u p f w q s l r E N A I eS (setF S c 5 D) := by
  obtain ⟨j1, j2, j3, j4, j5, j6, j7, j8⟩ := hJ
  obtain ⟨nc, nu, np, nf, _⟩ := Ref_ne j1 j2
  have NE := ClO_ne j1
  have er : (setF S c 5 D).1 r = S.1 r := setF_q (fun z => nc z.symm)
  have eu : (setF S c 5 D).1 u = S.1 u := setF_q (fun z => NE.1.2.2.2.2.2.2 z.symm)
  have ep : (setF S c 5 D).1 p = S.1 p := setF_q (fun z => NE.1.1 z.symm)
  have ef : (setF S c 5 D).1 f = S.1 f := setF_q (fun z => NE.1.2.2.1 z.symm)
  have ec : ∀ j, j ≠ 5 → (setF S c 5 D).1 c j = S.1 c j := fun j hj => setF_ne hj
  refine ⟨j1, j2, ?_, ?_, ?_, ⟨by rw [ep]; exact j6.1, by rw [setF_same]; exact hD⟩, ?_, ?_⟩
  · refine RI_same j3 ⟨fun j _ => by rw [er], fun m _ => ⟨by rw [er], by rw [er], by rw [er], by rw [er]⟩⟩ (by rw [er]; exact j3.1.2.1) j3.1.2.2.1 j3.1.2.2.2.1 (fun m hm => by rw [er]; exact j3.1.2.2.2.2.1 m hm) (fun m => by rw [er]; exact j3.1.2.2.2.2.2 m)
  · unfold CoI CS cWd at j4 ⊢
    rw [ef, ec 6 (by decide), ec 1 (by decide), ec 2 (by decide), ec 3 (by decide), ec 8 (by decide), ec 4 (by decide)]
    exact j4
  · unfold Rel at j5 ⊢
    rw [er, ef, ec 1 (by decide), ec 2 (by decide), ec 3 (by decide), ec 4 (by decide)]
    exact j5
  · rw [er, ec 7 (by decide)]; exact j7
  · unfold OutJ at j8 ⊢
    rw [er, eu]; exact j8
/-- a new node, not an element's -/
theorem RI_new (hR : RI r E N A I S eS) (hF : Face r S' E (N + 1)) (h2 : S'.1 r 2 0 = nI (N + 1)) (hk : ¬ S'.1 r 3 N ≤ 4) (hs : ∀ j i, j ≠ 0 → j ≠ 7 → j ≠ 8 → j ≠ 2 → j ≠ 1 → ¬ (3 ≤ j ∧ j ≤ 6 ∧ i = N) → S'.1 r j i = S.1 r j i) : RI r E (N + 1) (N + 1) I S' eS := by
  obtain ⟨f, i2, i3, i4, i5, i6, i7, i8, i9, i10, i11, i12⟩ := hR
  obtain ⟨⟨f1, f2, f3, f4, f5⟩, g2, g3, g4, g5, g6⟩ := f
  have hN := hF.2.2.1
  have s2 : ∀ m, m < N → S'.1 r 3 m = S.1 r 3 m ∧ S'.1 r 4 m = S.1 r 4 m ∧ S'.1 r 5 m = S.1 r 5 m ∧ S'.1 r 6 m = S.1 r 6 m := fun m hm => ⟨hs 3 m (by decide) (by decide) (by decide) (by decide) (by decide) (by omega), hs 4 m (by decide) (by decide) (by decide) (by decide) (by decide) (by omega), hs 5 m (by decide) (by decide) (by decide) (by decide) (by decide) (by omega), hs 6 m (by decide) (by decide) (by decide) (by decide) (by decide) (by omega)⟩
  have sj : ∀ j, 9 ≤ j → S'.1 r j = S.1 r j := fun j hj => funext fun i => hs j i (by omega) (by omega) (by omega) (by omega) (by omega) (by omega)
  have hw : ∀ m, m < N → wd (S'.1 r 3) (S'.1 r 5) m = wd (S.1 r 3) (S.1 r 5) m := wd_congr f5.2.1 (by omega) (fun m hm => (s2 m hm).1) (fun m hm => (s2 m hm).2.2.1)
  have hh := hf_congr (κ' := S'.1 r 3) (α' := S'.1 r 4) (β' := S'.1 r 5) (γ' := S'.1 r 6) f5.2.1 (by omega) s2
  have old : ∀ m, m < N + 1 → S'.1 r 3 m = 3 ∨ S'.1 r 3 m = 4 → m < N := fun m hm hkk => by
    by_cases z : m = N
    · subst z
      exfalso
      apply hk
      rcases hkk with y | y <;> rw [y] <;> decide
    · omega
  refine ⟨⟨hF, h2, Nat.le_refl _, by omega, Store_pB hF.2.2.2.1 hF.2.2.2.2 (by omega), fun m => by rw [sj 21 (by omega)]; exact g6 m⟩, fun e he => ?_, fun m hm hkk => ?_, fun m m' e e' hmm hm' hk1 hk2 ea ea' => ?_, fun e he => ?_, fun e => by rw [sj 13 (by omega)]; exact i6 e, fun e => by rw [sj 15 (by omega)]; exact i7 e, fun e he => by rw [sj 13 (by omega), sj 15 (by omega)]; exact i8 e he, fun e he hs' => ?_, by rw [sj 10 (by omega)]; exact i10, i11, fun k hk' => ?_⟩
  · obtain ⟨m, hm, em, k, a, w⟩ := i2 e he
    obtain ⟨q1, q2, q3, q4⟩ := s2 m hm
    exact ⟨m, by omega, by rw [sj 11 (by omega)]; exact em, by rw [q1]; exact k, by rw [q2]; exact a, by rw [q1]; exact w⟩
  · have hmN := old m hm hkk
    obtain ⟨q1, q2, q3, q4⟩ := s2 m hmN
    rw [q1] at hkk
    obtain ⟨e, he, a, em⟩ := i3 m hmN hkk
    exact ⟨e, he, by rw [q2]; exact a, by rw [sj 11 (by omega)]; exact em⟩
  · have hm1 := old m' hm' hk2
    obtain ⟨q1, q2, _⟩ := s2 m (by omega)
    obtain ⟨q1', q2', _⟩ := s2 m' hm1
    rw [q1] at hk1
    rw [q1'] at hk2
    rw [q2] at ea
    rw [q2'] at ea'
    exact i4 m m' e e' hmm hm1 hk1 hk2 ea ea'
  · obtain ⟨m, hm, em, w⟩ := i5 e he
    exact ⟨m, by omega, by rw [sj 12 (by omega)]; exact em, by rw [hw m hm]; exact w⟩
  · rw [sj 15 (by omega)] at hs'
    obtain ⟨m, hm, em, w, hz⟩ := i9 e he hs'
    exact ⟨m, by omega, by rw [sj 14 (by omega)]; exact em, by rw [hw m hm]; exact w, by rw [hh m hm]; exact hz⟩
  · obtain ⟨m, hm, em, w, hz⟩ := i12 k hk'
    exact ⟨m, by omega, by rw [sj 16 (by omega)]; exact em, by rw [hw m hm]; exact w, by rw [hh m hm]; exact hz⟩
theorem CoI_new (hI : CoI O c f E N I S eS) (hC : CS O f 300 256 S' E (N + 1)) (hk : ¬ S'.1 f 0 N ≤ 4) (hs : ∀ j i, j ≤ 4 → i < N → S'.1 f j i = S.1 f j i) (hc : S'.1 c = S.1 c) : CoI O c f E (N + 1) I S' eS := by
  obtain ⟨i1, i2, i3, i4, i5, i6, i7, i8, i9, i10⟩ := hI
  have hN31 := (CS_big i1).1
  have s2 : ∀ m, m < N → S'.1 f 0 m = S.1 f 0 m ∧ S'.1 f 1 m = S.1 f 1 m ∧ S'.1 f 2 m = S.1 f 2 m ∧ S'.1 f 3 m = S.1 f 3 m := fun m hm => ⟨hs 0 m (by omega) hm, hs 1 m (by omega) hm, hs 2 m (by omega) hm, hs 3 m (by omega) hm⟩
  have hw : ∀ m, m < N → cWd S' f m = cWd S f m := wd_congr i1.2.2.2.1.2.1 hN31 (fun m hm => (s2 m hm).1) (fun m hm => (s2 m hm).2.2.1)
  have hh := hf_congr (κ' := S'.1 f 0) (α' := S'.1 f 1) (β' := S'.1 f 2) (γ' := S'.1 f 3) i1.2.2.2.1.2.1 hN31 s2
  refine ⟨hC, i2, by rw [hc]; exact i3, fun e he => ?_, fun m hm hkk => ?_, fun e he => ?_, fun e he => ?_, by rw [hc]; exact i8, i9, fun k hk' => ?_⟩
  · obtain ⟨m, hm, em, k, a, w⟩ := i4 e he
    obtain ⟨q1, q2, _⟩ := s2 m hm
    exact ⟨m, by omega, by rw [hc]; exact em, by rw [q1]; exact k, by rw [q2]; exact a, by rw [q1]; exact w⟩
  · have hmN : m < N := by
      by_cases z : m = N
      · subst z
        exfalso
        apply hk
        rcases hkk with y | y <;> rw [y] <;> decide
      · omega
    obtain ⟨q1, q2, _⟩ := s2 m hmN
    rw [q1] at hkk
    obtain ⟨e, he, a, em⟩ := i5 m hmN hkk
    exact ⟨e, he, by rw [q2]; exact a, by rw [hc]; exact em⟩
  · rw [hc]
    rcases i6 e he with z | ⟨m, hm, em, w⟩
    · exact Or.inl z
    · exact Or.inr ⟨m, by omega, em, by rw [hw m hm]; exact w⟩
  · rw [hc]
    rcases i7 e he with z | ⟨m, hm, em, w, hz⟩
    · exact Or.inl z
    · exact Or.inr ⟨m, by omega, em, by rw [hw m hm]; exact w, by rw [hh m hm]; exact hz⟩
  · obtain ⟨m, hm, em, w, hz⟩ := i10 k hk'
    exact ⟨m, by omega, by rw [hc]; exact em, by rw [hw m hm]; exact w, by rw [hh m hm]; exact hz⟩
end JOINT
