/-! NEW ELEMENTS -/
/-- the sorts with one more -/
def eS1 (eS : Nat → Bool) (E : Nat) (k : Int32) (e : Nat) : Bool := if e = E then decide (k = 3) else eS e
section ELEM
variable {O : qOb9} {x c u p f w q s l r n E N A I : Nat} {S S' : qS} {eS : Nat → Bool} {k : Int32}
theorem eS1_E : eS1 eS E k E = decide (k = 3) := if_pos rfl
theorem eS1_o {e : Nat} (h : e < E) : eS1 eS E k e = eS e := if_neg (by omega)
theorem wd_el {κ β : Nat → Int32} {m : Nat} (h : κ m = 3 ∨ κ m = 4) : wd κ β m = decide (κ m = 3) := by
  rw [wd_n9 (by rcases h with z | z <;> rw [z] <;> decide)]
  rcases h with z | z <;> rw [z] <;> rfl
theorem CS_more {a R H E' : Nat} (hC : CS O a R H S E N) (hE : E ≤ E') : CS O a R H S E' N := by
  obtain ⟨c1, c2, c3, ⟨c4, c5, c6⟩, c7⟩ := hC
  exact ⟨c1, c2, c3, ⟨c4, fun m hm => rowOk_more (c5 m hm) hE, c6⟩, c7⟩
theorem RI_elem (hR : RI r E N A I S eS) (hk : k = 3 ∨ k = 4) (hF : Face r S' (E + 1) (N + 1)) (h2 : S'.1 r 2 0 = nI (N + 1)) (row : rowIs (S'.1 r) k (nI E) (-1) (-1) N) (e11 : S'.1 r 11 E = nI N) (e12 : S'.1 r 12 E = nI N) (hs : ∀ j i, j ≠ 0 → j ≠ 1 → j ≠ 2 → j ≠ 7 → j ≠ 8 → j ≠ 9 → ¬ (3 ≤ j ∧ j ≤ 6 ∧ i = N) → ¬ (11 ≤ j ∧ j ≤ 12 ∧ i = E) → S'.1 r j i = S.1 r j i) : RI r (E + 1) (N + 1) (N + 1) I S' (eS1 eS E k) := by
  obtain ⟨f, i2, i3, i4, i5, i6, i7, i8, i9, i10, i11, i12⟩ := hR
  obtain ⟨⟨f1, f2, f3, f4, f5⟩, g2, g3, g4, g5, g6⟩ := f
  have hN := hF.2.2.1
  have hE := hF.2.2.2.1
  have s2 : ∀ m, m < N → S'.1 r 3 m = S.1 r 3 m ∧ S'.1 r 4 m = S.1 r 4 m ∧ S'.1 r 5 m = S.1 r 5 m ∧ S'.1 r 6 m = S.1 r 6 m := fun m hm => ⟨hs 3 m (by decide) (by decide) (by decide) (by decide) (by decide) (by decide) (by omega) (by omega), hs 4 m (by decide) (by decide) (by decide) (by decide) (by decide) (by decide) (by omega) (by omega), hs 5 m (by decide) (by decide) (by decide) (by decide) (by decide) (by decide) (by omega) (by omega), hs 6 m (by decide) (by decide) (by decide) (by decide) (by decide) (by decide) (by omega) (by omega)⟩
  have sj : ∀ j, 10 ≤ j → j ≠ 11 → j ≠ 12 → S'.1 r j = S.1 r j := fun j hj h11 h12 => funext fun i => hs j i (by omega) (by omega) (by omega) (by omega) (by omega) (by omega) (by omega) (by omega)
  have s11 : ∀ e, e < E → S'.1 r 11 e = S.1 r 11 e := fun e he => hs 11 e (by decide) (by decide) (by decide) (by decide) (by decide) (by decide) (by omega) (by omega)
  have s12 : ∀ e, e < E → S'.1 r 12 e = S.1 r 12 e := fun e he => hs 12 e (by decide) (by decide) (by decide) (by decide) (by decide) (by decide) (by omega) (by omega)
  have hw : ∀ m, m < N → wd (S'.1 r 3) (S'.1 r 5) m = wd (S.1 r 3) (S.1 r 5) m := wd_congr f5.2.1 (by omega) (fun m hm => (s2 m hm).1) (fun m hm => (s2 m hm).2.2.1)
  have hh := hf_congr (κ' := S'.1 r 3) (α' := S'.1 r 4) (β' := S'.1 r 5) (γ' := S'.1 r 6) f5.2.1 (by omega) s2
  have kN : S'.1 r 3 N = 3 ∨ S'.1 r 3 N = 4 := by rw [row.1]; exact hk
  refine ⟨⟨hF, h2, Nat.le_refl _, by omega, Store_pB hE hF.2.2.2.2 (by omega), fun m => by rw [sj 21 (by omega) (by omega) (by omega)]; exact g6 m⟩, fun e he => ?_, fun m hm hkk => ?_, fun m m' e e' hmm hm' hk1 hk2 ea ea' he he' => ?_, fun e he => ?_, fun e => by rw [sj 13 (by omega) (by omega) (by omega)]; exact i6 e, fun e => by rw [sj 15 (by omega) (by omega) (by omega)]; exact i7 e, fun e he => by rw [sj 13 (by omega) (by omega) (by omega), sj 15 (by omega) (by omega) (by omega)]; exact i8 e (by omega), fun e he hs' => ?_, by rw [sj 10 (by omega) (by omega) (by omega)]; exact i10, i11, fun k' hk' => ?_⟩
  · by_cases z : e = E
    · subst z
      refine ⟨N, by omega, e11, kN, row.2.1, ?_⟩
      rw [eS1_E, row.1]
      exact decide_eq_true_iff.symm
    · obtain ⟨m, hm, em, k', a, w'⟩ := i2 e (by omega)
      obtain ⟨q1, q2, q3, q4⟩ := s2 m hm
      exact ⟨m, by omega, by rw [s11 e (by omega)]; exact em, by rw [q1]; exact k', by rw [q2]; exact a, by rw [q1, eS1_o (by omega)]; exact w'⟩
  · by_cases z : m = N
    · subst z
      exact ⟨E, by omega, row.2.1, e11⟩
    · obtain ⟨q1, q2, q3, q4⟩ := s2 m (by omega)
      rw [q1] at hkk
      obtain ⟨e, he, a, em⟩ := i3 m (by omega) hkk
      exact ⟨e, by omega, by rw [q2]; exact a, by rw [s11 e he]; exact em⟩
  · obtain ⟨q1, q2, _⟩ := s2 m (by omega)
    rw [q1] at hk1
    rw [q2] at ea
    by_cases z : m' = N
    · subst z
      have e2 := (nI_eq (by omega) (by omega)).mp (row.2.1.symm.trans ea')
      obtain ⟨e3, he3, a3, _⟩ := i3 m (by omega) hk1
      have := (nI_eq (by omega) (by omega)).mp (ea.symm.trans a3)
      omega
    · obtain ⟨q1', q2', _⟩ := s2 m' (by omega)
      rw [q1'] at hk2
      rw [q2'] at ea'
      exact i4 m m' e e' hmm (by omega) hk1 hk2 ea ea' he he'
  · by_cases z : e = E
    · subst z
      refine ⟨N, by omega, e12, ?_⟩
      rw [wd_el kN, eS1_E, row.1]
    · obtain ⟨m, hm, em, w'⟩ := i5 e (by omega)
      exact ⟨m, by omega, by rw [s12 e (by omega)]; exact em, by rw [hw m hm, eS1_o (by omega)]; exact w'⟩
  · rw [sj 15 (by omega) (by omega) (by omega)] at hs'
    by_cases z : e = E
    · exact absurd (i8 e (by omega)).2 hs'
    · obtain ⟨m, hm, em, w', hz⟩ := i9 e (by omega) hs'
      exact ⟨m, by omega, by rw [sj 14 (by omega) (by omega) (by omega)]; exact em, by rw [hw m hm, eS1_o (by omega)]; exact w', by rw [hh m hm]; exact hz⟩
  · obtain ⟨m, hm, em, w', hz⟩ := i12 k' hk'
    exact ⟨m, by omega, by rw [sj 16 (by omega) (by omega) (by omega)]; exact em, by rw [hw m hm]; exact w', by rw [hh m hm]; exact hz⟩
theorem CoI_elem (hI : CoI O c f E N I S eS) (hE16 : E < 16) (hk : k = 3 ∨ k = 4) (hC : CS O f 300 256 S' (E + 1) (N + 1)) (row : rwI (S'.1 f) k (nI E) (-1) (-1) N) (hs : ∀ j i, j ≤ 4 → i < N → S'.1 f j i = S.1 f j i) (h6 : S'.1 c 6 0 = nI (E + 1)) (h1 : ∀ i, S'.1 c 1 i = if i = E then nI N else S.1 c 1 i) (h2 : ∀ i, S'.1 c 2 i = if i = E then -1 else S.1 c 2 i) (h3 : ∀ i, S'.1 c 3 i = if i = E then -1 else S.1 c 3 i) (h4 : S'.1 c 4 = S.1 c 4) (h8 : S'.1 c 8 = S.1 c 8) : CoI O c f (E + 1) (N + 1) I S' (eS1 eS E k) := by
  obtain ⟨i1, i2, i3, i4, i5, i6, i7, i8, i9, i10⟩ := hI
  have hN31 := (CS_big i1).1
  have s2 : ∀ m, m < N → S'.1 f 0 m = S.1 f 0 m ∧ S'.1 f 1 m = S.1 f 1 m ∧ S'.1 f 2 m = S.1 f 2 m ∧ S'.1 f 3 m = S.1 f 3 m := fun m hm => ⟨hs 0 m (by omega) hm, hs 1 m (by omega) hm, hs 2 m (by omega) hm, hs 3 m (by omega) hm⟩
  have hw : ∀ m, m < N → cWd S' f m = cWd S f m := wd_congr i1.2.2.2.1.2.1 hN31 (fun m hm => (s2 m hm).1) (fun m hm => (s2 m hm).2.2.1)
  have hh := hf_congr (κ' := S'.1 f 0) (α' := S'.1 f 1) (β' := S'.1 f 2) (γ' := S'.1 f 3) i1.2.2.2.1.2.1 hN31 s2
  refine ⟨hC, by omega, h6, fun e he => ?_, fun m hm hkk => ?_, fun e he => ?_, fun e he => ?_, by rw [h8]; exact i8, i9, fun k' hk' => ?_⟩
  · by_cases z : e = E
    · subst z
      refine ⟨N, by omega, by rw [h1, if_pos rfl], by rw [row.1]; exact hk, row.2.1, ?_⟩
      rw [eS1_E, row.1]
      exact decide_eq_true_iff.symm
    · obtain ⟨m, hm, em, k', a, w'⟩ := i4 e (by omega)
      obtain ⟨q1, q2, _⟩ := s2 m hm
      exact ⟨m, by omega, by rw [h1, if_neg z]; exact em, by rw [q1]; exact k', by rw [q2]; exact a, by rw [q1, eS1_o (by omega)]; exact w'⟩
  · by_cases z : m = N
    · subst z
      exact ⟨E, by omega, row.2.1, by rw [h1, if_pos rfl]⟩
    · obtain ⟨q1, q2, _⟩ := s2 m (by omega)
      rw [q1] at hkk
      obtain ⟨e, he, a, em⟩ := i5 m (by omega) hkk
      exact ⟨e, by omega, by rw [q2]; exact a, by rw [h1, if_neg (by omega)]; exact em⟩
  · rw [h2]
    by_cases z : e = E
    · rw [if_pos z]; exact Or.inl rfl
    · rw [if_neg z]
      rcases i6 e (by omega) with y | ⟨m, hm, em, w'⟩
      · exact Or.inl y
      · exact Or.inr ⟨m, by omega, em, by rw [hw m hm, eS1_o (by omega)]; exact w'⟩
  · rw [h3]
    by_cases z : e = E
    · rw [if_pos z]; exact Or.inl rfl
    · rw [if_neg z]
      rcases i7 e (by omega) with y | ⟨m, hm, em, w', hz⟩
      · exact Or.inl y
      · exact Or.inr ⟨m, by omega, em, by rw [hw m hm, eS1_o (by omega)]; exact w', by rw [hh m hm]; exact hz⟩
  · obtain ⟨m, hm, em, w', hz⟩ := i10 k' hk'
    exact ⟨m, by omega, by rw [h4]; exact em, by rw [hw m hm]; exact w', by rw [hh m hm]; exact hz⟩
theorem cls_addElement (hO : ClO O x c u p f w q s l) (hn : 7000 ≤ n) (hI : CoI O c f E N I S eS) (hc : ¬ (E = 16 ∨ N = 300)) (hk : k = 3 ∨ k = 4) :
    ∃ S', G_XCore_addElement O n c k S = some (nI N, S') ∧ onl (fun o => o = c ∨ o = f) S S' ∧ CS O f 300 256 S' (E + 1) (N + 1) ∧ rwI (S'.1 f) k (nI E) (-1) (-1) N ∧ (∀ j i, j ≤ 4 → i < N → S'.1 f j i = S.1 f j i) ∧ S'.1 c 6 0 = nI (E + 1) ∧ (∀ i, S'.1 c 1 i = if i = E then nI N else S.1 c 1 i) ∧ (∀ i, S'.1 c 2 i = if i = E then -1 else S.1 c 2 i) ∧ (∀ i, S'.1 c 3 i = if i = E then -1 else S.1 c 3 i) ∧ ∀ j, j ≠ 1 → j ≠ 2 → j ≠ 3 → j ≠ 6 → S'.1 c j = S.1 c j := by
  have hE := hI.2.1
  have hN := hI.1.2.2.1
  have h3N := (CS_big hI.1).2
  obtain ⟨h1, h2, o1, o4, h3⟩ := ClO_f hO
  have NE := fun _ : Unit => ClO_ne hO
  have lens := hO.2.2.2.1
  have cf : c ≠ f := (NE ()).1.2.2.1
  obtain ⟨v, S1, e1, hP⟩ := cls_putF (n := n) hn (by omega) (CS_more (E' := E + 1) hI.1 (by omega)) (k := k) (a := nI E) (b := -1) (z := -1) (fun _ => fun κ α β γ ag e0 e1 e2 e3 => Or.inr ⟨h3N, Or.inl ⟨by rw [e0]; exact hk, ⟨E, by omega, e1⟩, e2, e3⟩⟩) (fun z => by rcases hk with y | y <;> rw [y] at z <;> exact absurd z (by decide))
  have hnew : v = nI N ∧ CS O f 300 256 S1 (E + 1) (N + 1) ∧ rOnly f S S1 ∧ (∀ j i, j ≤ 4 → i < N → S1.1 f j i = S.1 f j i) ∧ rwI (S1.1 f) k (nI E) (-1) (-1) N := by
    rcases hP with ⟨m, hm, rm, _⟩ | ⟨_, h300, _⟩ | ⟨_, _, a1, a2, a3, a4, a5⟩
    · exfalso
      have hkk : S.1 f 0 m = 3 ∨ S.1 f 0 m = 4 := by rw [rm.1]; exact hk
      obtain ⟨e, he, ea, _⟩ := hI.2.2.2.2.1 m hm hkk
      have := (nI_eq (by omega) (by omega)).mp (rm.2.1.symm.trans ea)
      omega
    · omega
    · exact ⟨a1, a2, a3, a4, a5⟩
  obtain ⟨ev, a2, a3, a4, a5⟩ := hnew
  have ec : S1.1 c = S.1 c := a3.2 c cf
  have l1 : E < oN O c 1 := by rw [lens.1]; omega
  have l2 : E < oN O c 2 := by rw [lens.2.1]; omega
  have l3 : E < oN O c 3 := by rw [lens.2.2.1]; omega
  unfold G_XCore_addElement G_XNodes_makeElement
  rw [uO h2 (by decide), o4, uI h2 (by decide), hI.2.2.1, uk h3, uk h3, yC_id, e1, yC_some, ev, uA h2 (by decide), uI h2 (by decide), ec, hI.2.2.1, uw h2 (by decide) l1 (by omega)]
  have b1 : ∀ j i, ((up3 S1.1 c 1 E (nI N), S1.2) : qS).1 c j i = if j = 1 ∧ i = E then nI N else S.1 c j i := fun j i => by rw [← ec]; exact up3_at _ _ _ _ _ _ _
  have r1 : rOnly c S1 (up3 S1.1 c 1 E (nI N), S1.2) := rOnly.up
  generalize ((up3 S1.1 c 1 E (nI N), S1.2) : qS) = S2 at b1 r1 ⊢
  rw [uA h2 (by decide), uI h2 (by decide), b1, if_neg (fun z => absurd z.1 (by decide)), hI.2.2.1, uw h2 (by decide) l2 (by omega)]
  have b2 : ∀ j i, ((up3 S2.1 c 2 E (-1), S2.2) : qS).1 c j i = if j = 2 ∧ i = E then -1 else S2.1 c j i := fun j i => up3_at _ _ _ _ _ _ _
  have r2 : rOnly c S2 (up3 S2.1 c 2 E (-1), S2.2) := rOnly.up
  generalize ((up3 S2.1 c 2 E (-1), S2.2) : qS) = S3 at b2 r2 ⊢
  rw [uA h2 (by decide), uI h2 (by decide), b2, if_neg (fun z => absurd z.1 (by decide)), b1, if_neg (fun z => absurd z.1 (by decide)), hI.2.2.1, uw h2 (by decide) l3 (by omega)]
  have b3 : ∀ j i, ((up3 S3.1 c 3 E (-1), S3.2) : qS).1 c j i = if j = 3 ∧ i = E then -1 else S3.1 c j i := fun j i => up3_at _ _ _ _ _ _ _
  have r3 : rOnly c S3 (up3 S3.1 c 3 E (-1), S3.2) := rOnly.up
  generalize ((up3 S3.1 c 3 E (-1), S3.2) : qS) = S4 at b3 r3 ⊢
  rw [uI h2 (by decide), b3, if_neg (fun z => absurd z.1 (by decide)), b2, if_neg (fun z => absurd z.1 (by decide)), b1, if_neg (fun z => absurd z.1 (by decide)), hI.2.2.1, uP h2 (by decide), nI_1]
  have b4 : ∀ j i, ((up3 S4.1 c 6 0 (nI (E + 1)), S4.2) : qS).1 c j i = if j = 6 ∧ i = 0 then nI (E + 1) else S4.1 c j i := fun j i => up3_at _ _ _ _ _ _ _
  have r4 : rOnly c S4 (up3 S4.1 c 6 0 (nI (E + 1)), S4.2) := rOnly.up
  generalize ((up3 S4.1 c 6 0 (nI (E + 1)), S4.2) : qS) = S5 at b4 r4 ⊢
  have rc : rOnly c S1 S5 := ((r1.trans r2).trans r3).trans r4
  have ef : S5.1 f = S1.1 f := rc.2 f (fun z => cf z.symm)
  refine ⟨S5, rfl, (onl.of a3 (Or.inr rfl)).trans (onl.of rc (Or.inl rfl)), CS_other a2 ef, by rw [ef]; exact a5, fun j i hj hi => by rw [ef]; exact a4 j i hj hi, by rw [b4, if_pos ⟨rfl, rfl⟩], fun i => ?_, fun i => ?_, fun i => ?_, fun j j1 j2 j3 j6 => funext fun i => ?_⟩
  · rw [b4, if_neg (fun z => absurd z.1 (by decide)), b3, if_neg (fun z => absurd z.1 (by decide)), b2, if_neg (fun z => absurd z.1 (by decide)), b1]
    by_cases z : i = E
    · rw [if_pos ⟨rfl, z⟩, if_pos z]
    · rw [if_neg (fun y => z y.2), if_neg z]
  · rw [b4, if_neg (fun z => absurd z.1 (by decide)), b3, if_neg (fun z => absurd z.1 (by decide)), b2]
    by_cases z : i = E
    · rw [if_pos ⟨rfl, z⟩, if_pos z]
    · rw [if_neg (fun y => z y.2), if_neg z, b1, if_neg (fun z => absurd z.1 (by decide))]
  · rw [b4, if_neg (fun z => absurd z.1 (by decide)), b3]
    by_cases z : i = E
    · rw [if_pos ⟨rfl, z⟩, if_pos z]
    · rw [if_neg (fun y => z y.2), if_neg z, b2, if_neg (fun z => absurd z.1 (by decide)), b1, if_neg (fun z => absurd z.1 (by decide))]
  · rw [b4, if_neg (fun z => j6 z.1), b3, if_neg (fun z => j3 z.1), b2, if_neg (fun z => j2 z.1), b1, if_neg (fun z => j1 z.1)]
theorem J_elem (hJ : Jn O x c u p f w q s l r E N A I eS S) (hn : 7000 ≤ n) (k34 : k = 3 ∨ k = 4) {y1 : Option ((Int32 ⊕ String) × qS)} {y2 : qS → Option (Int32 × qS)} (hy1 : y1 = hk 1 O x (tW (G_X_requireRoomForElement O n x S) (fun S1 => hO 1 O x 0 (fun v2 => hk 2 O v2 (yC (G_XCore_addElement O n v2 k S1) (fun v4 S3 => some (.inl v4, S3))))))) (hy2 : ∀ T, y2 T = hk 0 O r (yC (G_XModel_addElement O n r k T) (fun v2 S1 => some (v2, S1)))) :
    CallOk y1 y2 [("java/lang/UnsupportedOperationException", 1)] r (JE O x c u p f w q s l r) := by
  have hJ' := hJ
  obtain ⟨j1, j2, j3, j4, j5, j6, j7, j8⟩ := hJ
  obtain ⟨nc, nu, np, nf, _⟩ := Ref_ne j1 j2
  have NE := fun _ : Unit => ClO_ne j1
  have hF := j3.1.1
  have hC := j4.1
  have hE := j4.2.1
  have hN := hC.2.2.1
  obtain ⟨h1, h2, o1, o4, h3⟩ := ClO_f j1
  obtain ⟨q1, q2⟩ := cls_reqRoom (n := n) j1 hC j4.2.2.1 hE
  rw [hy1, uk h1]
  by_cases z : E = 16 ∨ N = 300
  · rw [q1 z, tW_inr]
    refine J_refuse hJ' (e := xUOE) (t := 1) rfl (by decide) ?_
    rw [hy2, rk j2, (face_addElement (O := O) (n := n) j2 hn hF).1 z, yC_some]
  · rw [q2 z, tW_inl, uO h1 (by decide), o1, uk h2]
    obtain ⟨S1, e1, a1, a2, a3, a4, a5, a6, a7, a8, a9⟩ := cls_addElement (n := n) j1 hn j4 z k34
    have e1r : S1.1 r = S.1 r := (a1 r (by rintro (y | y); exact nc y.symm; exact nf y.symm)).1
    have e1u : S1.1 u = S.1 u := (a1 u (by rintro (y | y); exact (NE ()).1.2.2.2.2.2.2 y.symm; exact (NE ()).2.2.2.1.2.2.2 y.symm)).1
    have e1p : S1.1 p = S.1 p := (a1 p (by rintro (y | y); exact (NE ()).1.1 y.symm; exact (NE ()).2.1.2.1 y)).1
    obtain ⟨S2, e2, b1, b2, b3, b4, b5, b6, b7, b8⟩ := face_word (O := O) (n := n) j2 hn (Face_eq e1r hF) z k34
    have e2f : S2.1 f = S1.1 f := b1.2 f nf
    have e2c : S2.1 c = S1.1 c := b1.2 c nc
    have hs : ∀ j i, j ≠ 0 → j ≠ 1 → j ≠ 2 → j ≠ 7 → j ≠ 8 → j ≠ 9 → ¬ (3 ≤ j ∧ j ≤ 6 ∧ i = N) → ¬ (11 ≤ j ∧ j ≤ 12 ∧ i = E) → S2.1 r j i = S.1 r j i := fun j i y0 y1 y2 y7 y8 y9 yN yE => by rw [b8 j i y0 y1 y2 y7 y8 y9 yN yE, e1r]
    have sj : ∀ j, 10 ≤ j → j ≠ 11 → j ≠ 12 → S2.1 r j = S.1 r j := fun j hj h11 h12 => funext fun i => hs j i (by omega) (by omega) (by omega) (by omega) (by omega) (by omega) (by omega) (by omega)
    have lo : ∀ e, e < E → S2.1 r 11 e = S.1 r 11 e ∧ S2.1 r 12 e = S.1 r 12 e := fun e he => ⟨hs 11 e (by decide) (by decide) (by decide) (by decide) (by decide) (by decide) (by omega) (by omega), hs 12 e (by decide) (by decide) (by decide) (by decide) (by decide) (by decide) (by omega) (by omega)⟩
    obtain ⟨z13, z15⟩ := j3.2.2.2.2.2.2.2.1 E (Nat.le_refl E)
    rw [e1, yC_some]
    refine ⟨_, S1, nI N, S2, rfl, by rw [hy2, rk j2, e2, yC_some], ⟨E + 1, N + 1, N + 1, I, eS1 eS E k, j1, j2, RI_elem j3 k34 b3 b7 b4 b5 b6 hs, CoI_elem j4 (by omega) k34 (CS_other a2 e2f) (by rw [e2f]; exact a3) (fun j i hj hi => by rw [e2f]; exact a4 j i hj hi) (by rw [e2c]; exact a5) (by rw [e2c]; exact a6) (by rw [e2c]; exact a7) (by rw [e2c]; exact a8) (by rw [e2c]; exact a9 4 (by decide) (by decide) (by decide) (by decide)) (by rw [e2c]; exact a9 8 (by decide) (by decide) (by decide) (by decide)), ⟨fun m hm => ?_, fun e he => ?_, fun e he => ?_, fun e he => ?_, fun k' hk' => ?_⟩, ⟨by rw [b1.2 p np, e1p]; exact j6.1, by rw [e2c, a9 5 (by decide) (by decide) (by decide) (by decide)]; exact j6.2⟩, ?_, ?_⟩, Or.inl ⟨rfl, b2⟩⟩
    · by_cases y : m = N
      · subst y
        rw [e2f]
        exact ⟨b4.1.trans a3.1.symm, b4.2.1.trans a3.2.1.symm, b4.2.2.1.trans a3.2.2.1.symm, b4.2.2.2.trans a3.2.2.2.symm⟩
      · obtain ⟨g1, g2, g3, g4⟩ := j5.1 m (by omega)
        rw [e2f, hs 3 m (by decide) (by decide) (by decide) (by decide) (by decide) (by decide) (by omega) (by omega), hs 4 m (by decide) (by decide) (by decide) (by decide) (by decide) (by decide) (by omega) (by omega), hs 5 m (by decide) (by decide) (by decide) (by decide) (by decide) (by decide) (by omega) (by omega), hs 6 m (by decide) (by decide) (by decide) (by decide) (by decide) (by decide) (by omega) (by omega), a4 0 m (by omega) (by omega), a4 1 m (by omega) (by omega), a4 2 m (by omega) (by omega), a4 3 m (by omega) (by omega)]
        exact ⟨g1, g2, g3, g4⟩
    · rw [e2c, a6]
      by_cases y : e = E
      · rw [if_pos y, y]; exact b5
      · rw [if_neg y, (lo e (by omega)).1]; exact j5.2.1 e (by omega)
    · rw [e2c, a7, sj 13 (by omega) (by omega) (by omega)]
      by_cases y : e = E
      · rw [if_pos y, y]; exact Or.inl ⟨rfl, z13, b6.trans b5.symm⟩
      · rw [if_neg y, (lo e (by omega)).1, (lo e (by omega)).2]; exact j5.2.2.1 e (by omega)
    · rw [e2c, a8, sj 15 (by omega) (by omega) (by omega), sj 14 (by omega) (by omega) (by omega)]
      by_cases y : e = E
      · rw [if_pos y, y]; exact Or.inl ⟨rfl, z15⟩
      · rw [if_neg y]; exact j5.2.2.2.1 e (by omega)
    · rw [e2c, a9 4 (by decide) (by decide) (by decide) (by decide), sj 16 (by omega) (by omega) (by omega)]; exact j5.2.2.2.2 k' hk'
    · rw [e2c, a9 7 (by decide) (by decide) (by decide) (by decide), sj 15 (by omega) (by omega) (by omega), j7]
      show nI (seenN (S.1 r 15) E) = nI (seenN (S.1 r 15) E + (if S.1 r 15 E = 0 then 0 else 1))
      rw [if_pos z15]; rfl
    · unfold OutJ at j8 ⊢
      rw [b1.2 u nu, e1u, sj 29 (by omega) (by omega) (by omega), sj 30 (by omega) (by omega) (by omega), sj 31 (by omega) (by omega) (by omega), sj 32 (by omega) (by omega) (by omega), sj 33 (by omega) (by omega) (by omega), sj 34 (by omega) (by omega) (by omega), sj 35 (by omega) (by omega) (by omega)]
      exact j8
theorem J_word (hJ : Jn O x c u p f w q s l r E N A I eS S) (hn : 7000 ≤ n) : CallOk (G_X_word O n x S) (fun T => G_XModel_word O n r T) [("java/lang/UnsupportedOperationException", 1)] r (JE O x c u p f w q s l r) := J_elem hJ hn (Or.inl rfl) rfl (fun _ => rfl)
theorem J_truth (hJ : Jn O x c u p f w q s l r E N A I eS S) (hn : 7000 ≤ n) : CallOk (G_X_truth O n x S) (fun T => G_XModel_truth O n r T) [("java/lang/UnsupportedOperationException", 1)] r (JE O x c u p f w q s l r) := J_elem hJ hn (Or.inr rfl) rfl (fun _ => rfl)
end ELEM
