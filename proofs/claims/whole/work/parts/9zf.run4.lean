section RUN4
variable {O : qOb9} {r n E N A I : Nat} {S B : qS} {eS : Nat → Bool}
theorem ref_bs (h : Ref O r) (hn : 3000000 ≤ n) (hI : RI r E N A I S eS) (hB : ∀ j, (j = 3 ∨ j = 4 ∨ j = 5 ∨ j = 6 ∨ j = 9 ∨ j = 11) → B.1 r j = S.1 r j) {T : qS} {AT : Nat} (hT : RunI r E N B T AT) : ∃ T', G_XModel_beginState O n r T = some ((), T') ∧ RunI r E N B T' AT ∧ T' = setF T r 18 (T'.1 r 18) ∧ StOk r E AT T' (st0R S r) eS := by
  obtain ⟨⟨⟨f1, f2, f3, f4, f5⟩, g2, g3, g4, g5, g6⟩, i2, i3, i4, i5, i6, i7, i8, i9, i10, i11, i12⟩ := hI
  have t9 : T.1 r 9 0 = nI E := by rw [hT.2.2.2 9 0 (by decide) (by decide) (by decide) (by decide) (by decide) (by omega), hB 9 (by omega)]; exact f2
  have t11 : ∀ e, T.1 r 11 e = S.1 r 11 e := fun e => by rw [hT.2.2.2 11 e (by decide) (by decide) (by decide) (by decide) (by decide) (by omega), hB 11 (by omega)]
  have rows := RunI_rows hT
  refine ⟨_, ref_beginState (O := O) (n := n) h (by omega) t9 f4, RunI_18 hT, by rw [setF_same], fun e he => ?_⟩
  obtain ⟨m, hm, em, hk, ha, w⟩ := i2 e he
  have te : tN (S.1 r 11 e) = m := by rw [em]; exact nI_clamp (by omega)
  have hN' := hT.2.1.1
  have ag : ∀ q, q < N → T.1 r 3 q = S.1 r 3 q ∧ T.1 r 4 q = S.1 r 4 q ∧ T.1 r 5 q = S.1 r 5 q ∧ T.1 r 6 q = S.1 r 6 q := fun q hq => by
    obtain ⟨q1, q2, q3, q4⟩ := rows q hq
    rw [q1, q2, q3, q4, hB 3 (by omega), hB 4 (by omega), hB 5 (by omega), hB 6 (by omega)]
    exact ⟨rfl, rfl, rfl, rfl⟩
  refine ⟨m, by omega, ?_, ?_, ?_⟩
  · rw [setF_same]
    show (if e < E then T.1 r 11 e else T.1 r 18 e) = nI m
    rw [if_pos he, t11, em]
  · show cd _ _ _ _ m = _
    rw [setF_ne (by decide), setF_ne (by decide), setF_ne (by decide), setF_ne (by decide)]
    unfold st0R
    rw [te]
    exact cd_congr f5.2.1 (by omega) ag m hm
  · rw [setF_ne (by decide), setF_ne (by decide), wd_congr f5.2.1 (by omega) (fun q hq => (ag q hq).1) (fun q hq => (ag q hq).2.2.1) m hm]
    have hk9 : ¬ S.1 r 3 m = 9 := by rcases hk with q | q <;> rw [q] <;> decide
    rw [wd_n9 hk9]
    rcases hk with q | q
    · rw [w.mp q, q]; rfl
    · rw [q]
      cases z : eS e with
      | false => rfl
      | true =>
        have := w.mpr z
        rw [q] at this
        exact absurd this (by decide)
theorem RunI_base {T : qS} {AT : Nat} {g : Nat → Int32} (hT : RunI r E N B T AT) : RunI r E N (setF B r 19 g) (setF T r 19 g) AT := by
  obtain ⟨x1, x2, x3, x4⟩ := hT
  refine ⟨Ext_field (by decide) x1, ⟨x2.1, fun m h1 h2 => by rw [setF_ne (by decide)]; exact x2.2 m h1 h2⟩, ⟨x3.1, fun o ho => ?_⟩, fun j k h7 h8 h2 h17 h18 hne => ?_⟩
  · rw [(setF_only (S := T) (r := r) (j := 19) (g := g)).2 o ho, (setF_only (S := B) (r := r) (j := 19) (g := g)).2 o ho, x3.2 o ho]
  · by_cases z : j = 19
    · subst z; rw [setF_same, setF_same]
    · rw [setF_ne z, setF_ne z]; exact x4 j k h7 h8 h2 h17 h18 hne
theorem StepOk_19 {g : Nat → Int32} (hO : StepOk O r n E N B eS) : StepOk O r n E N (setF B r 19 g) eS := by
  obtain ⟨h1, h2, h3, h4, h5, h6, h7, h8, h9⟩ := hO
  refine ⟨h1, h2, h3, h4, by rw [setF_ne (by decide)]; exact h5, by rw [setF_ne (by decide)]; exact h6, by rw [setF_ne (by decide), setF_ne (by decide), setF_ne (by decide), setF_ne (by decide)]; exact h7, ?_, ?_⟩
  · unfold ElS; rw [setF_ne (by decide), setF_ne (by decide)]; exact h8
  · unfold NxOk; rw [setF_ne (by decide), setF_ne (by decide), setF_ne (by decide)]; exact h9
/-- elements' nodes in a longer store -/
theorem RunI_EL (hI : RI r E N A I S eS) (hB : ∀ j, (j = 3 ∨ j = 4 ∨ j = 5 ∨ j = 6 ∨ j = 9 ∨ j = 11) → B.1 r j = S.1 r j) {T : qS} {AT : Nat} (hT : RunI r E N B T AT) : EL r E AT T ∧ ElO r AT T ∧ (∀ e m, e < E → m < AT → T.1 r 11 e = nI m → (T.1 r 3 m = 3 ↔ eS e = true)) := by
  obtain ⟨⟨⟨f1, f2, f3, f4, f5⟩, g2, g3, g4, g5, g6⟩, i2, i3, i4, i5, i6, i7, i8, i9, i10, i11, i12⟩ := hI
  have hA := hT.1.2.1
  have hNA := hT.2.1.1
  have t11 : ∀ e, T.1 r 11 e = S.1 r 11 e := fun e => by rw [hT.2.2.2 11 e (by decide) (by decide) (by decide) (by decide) (by decide) (by omega), hB 11 (by omega)]
  have rows := RunI_rows hT
  have ag : ∀ q, q < N → T.1 r 3 q = S.1 r 3 q ∧ T.1 r 4 q = S.1 r 4 q := fun q hq => by
    obtain ⟨q1, q2, q3, q4⟩ := rows q hq
    rw [q1, q2, hB 3 (by omega), hB 4 (by omega)]
    exact ⟨rfl, rfl⟩
  have low : ∀ m, m < AT → (T.1 r 3 m = 3 ∨ T.1 r 3 m = 4) → m < N := fun m hm hk => by
    apply Nat.lt_of_not_le
    intro hle
    exact hT.2.1.2 m hle hm (by rcases hk with q | q <;> rw [q] <;> decide)
  refine ⟨⟨fun e he => ?_, fun m hm hk => ?_⟩, fun m m' e e' hmm hm' hk hk' ea ea' => ?_, fun e m he hm em => ?_⟩
  · obtain ⟨m, hm, em, hk, ha, w⟩ := i2 e he
    exact ⟨m, by omega, by rw [t11]; exact em, by rw [(ag m hm).1]; exact hk, by rw [(ag m hm).2]; exact ha⟩
  · have hm' := low m hm hk
    rw [(ag m hm').1] at hk
    obtain ⟨e, he, a, em⟩ := i3 m hm' hk
    exact ⟨e, he, by rw [(ag m hm').2]; exact a, by rw [t11]; exact em⟩
  · have l1 := low m (by omega) hk
    have l2 := low m' hm' hk'
    rw [(ag m l1).1] at hk
    rw [(ag m' l2).1] at hk'
    rw [(ag m l1).2] at ea
    rw [(ag m' l2).2] at ea'
    exact i4 m m' e e' hmm l2 hk hk' ea ea'
  · rw [t11] at em
    obtain ⟨m', hm', em', hk, ha, w⟩ := i2 e he
    have := (nI_eq (by omega) (by omega)).mp (em.symm.trans em')
    subst this
    rw [(ag m hm').1]; exact w
end RUN4
