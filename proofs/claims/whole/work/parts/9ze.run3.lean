/-! THE REFERENCE'S run -/
def st0R (S : qS) (r e : Nat) : Nat := rCd S r (tN (S.1 r 11 e))
def oneR (S : qS) (r d : Nat) : Nat → Nat := itr (stp S r (pr 0 0)) d (stp S r (pr 1 0) (st0R S r))
def othR (S : qS) (r d e : Nat) : Nat := rSb S r (itr (stp S r (pr 0 0)) d (st0R S r)) (pr 2 0) (tN (S.1 r 14 e))
def snR (S : qS) (r E e : Nat) : Bool := decide (e < E) && !decide (S.1 r 15 e = 0)
def ivR (S : qS) (r k : Nat) : Nat := rCd S r (tN (S.1 r 16 k))
theorem snR_iff {S : qS} {r E e : Nat} : snR S r E e = true ↔ e < E ∧ ¬ S.1 r 15 e = 0 := by
  unfold snR
  rw [Bool.and_eq_true, decide_eq_true_iff, Bool.not_eq_true', decide_eq_false_iff_not]
/-- the roots of a question -/
def rts (I : Nat) (iv : Nat → Nat) (sn : Nat → Bool) (c1 c2 : Nat → Nat) (c : Nat) : Prop := (∃ e, sn e = true ∧ (c = c1 e ∨ c = c2 e)) ∨ ∃ k, k < I ∧ c = iv k
section RUN3
variable {O : qOb9} {r n E N A I : Nat} {S S0 : qS} {eS : Nat → Bool}
theorem stp_congr (hrow : ∀ m, m < N → rowOk (S.1 r 3) (S.1 r 4) (S.1 r 5) (S.1 r 6) E m) (hN : N ≤ 300) (hE : E ≤ 16) (hs : SameF r N S S0) (hnx : NxOk r E N S eS) {fc : Nat} {st st' : Nat → Nat} (hst : ∀ e, e < E → st' e = st e) : ∀ e, e < E → stp S0 r fc st' e = stp S r fc st e := by
  intro e he
  obtain ⟨m, hm, em, _⟩ := hnx e he
  unfold stp
  rw [hs.1 12 (by omega), em]
  have : tN (nI m) = m := nI_clamp (by omega)
  rw [this]
  exact sb_congr hrow (by omega) hE hs.2 hst m hm
theorem itr_congr (hrow : ∀ m, m < N → rowOk (S.1 r 3) (S.1 r 4) (S.1 r 5) (S.1 r 6) E m) (hN : N ≤ 300) (hE : E ≤ 16) (hs : SameF r N S S0) (hnx : NxOk r E N S eS) {fc : Nat} : ∀ (d : Nat) (st st' : Nat → Nat), (∀ e, e < E → st' e = st e) → ∀ e, e < E → itr (stp S0 r fc) d st' e = itr (stp S r fc) d st e := by
  intro d
  induction d with
  | zero => intro st st' h e he; exact h e he
  | succ d ih =>
    intro st st' h e he
    exact ih _ _ (stp_congr hrow hN hE hs hnx h) e he
theorem Ext_field {A' j : Nat} {g : Nat → Int32} (hj : j ≠ 2 ∧ j ≠ 3 ∧ j ≠ 4 ∧ j ≠ 5 ∧ j ≠ 6 ∧ j ≠ 7 ∧ j ≠ 8) (h : Ext r S E A') : Ext r (setF S r j g) E A' := by
  obtain ⟨h1, h2, h3, h4⟩ := h
  refine ⟨?_, h2, ?_, ?_⟩
  · rw [setF_ne (Ne.symm hj.1)]; exact h1
  · rw [setF_ne (Ne.symm hj.2.1), setF_ne (Ne.symm hj.2.2.1), setF_ne (Ne.symm hj.2.2.2.1), setF_ne (Ne.symm hj.2.2.2.2.1)]; exact h3
  · have hr : ∀ i', rowH ((setF S r j g).1 r) i' = rowH (S.1 r) i' := fun i' => by
      unfold rowH
      rw [setF_ne (Ne.symm hj.2.1), setF_ne (Ne.symm hj.2.2.1), setF_ne (Ne.symm hj.2.2.2.1), setF_ne (Ne.symm hj.2.2.2.2.1)]
    refine ⟨fun hh hb => ?_, fun i' hi => ?_⟩
    · rw [setF_ne (Ne.symm hj.2.2.2.2.2.1), h4.1 hh hb]
      exact (rTop_congr fun i' _ => hr i').symm
    · rw [setF_ne (Ne.symm hj.2.2.2.2.2.2), h4.2 i' hi, hr]
      exact (rTop_congr fun i' _ => hr i').symm
/-- the frame lets the store be -/
theorem Ext_fr {A' : Nat} {S' : qS} {J : Nat → Prop} (hf : rFr r S S' J) (hJ : ∀ j, 2 ≤ j → j ≤ 8 → ¬ J j) (h : Ext r S E A') : Ext r S' E A' := by
  obtain ⟨h1, h2, h3, h4⟩ := h
  have s : ∀ j, 2 ≤ j → j ≤ 8 → S'.1 r j = S.1 r j := fun j a b => hf.2 j (hJ j a b)
  have hr : ∀ i', rowH (S'.1 r) i' = rowH (S.1 r) i' := fun i' => by
    unfold rowH
    rw [s 3 (by omega) (by omega), s 4 (by omega) (by omega), s 5 (by omega) (by omega), s 6 (by omega) (by omega)]
  refine ⟨by rw [s 2 (by omega) (by omega)]; exact h1, h2, by rw [s 3 (by omega) (by omega), s 4 (by omega) (by omega), s 5 (by omega) (by omega), s 6 (by omega) (by omega)]; exact h3, fun hh hb => ?_, fun i' hi => ?_⟩
  · rw [s 7 (by omega) (by omega), h4.1 hh hb]
    exact (rTop_congr fun i' _ => hr i').symm
  · rw [s 8 (by omega) (by omega), h4.2 i' hi, hr]
    exact (rTop_congr fun i' _ => hr i').symm
theorem Ext_pB (hE : E ≤ 16) (hX : Ext r S E A) : ∀ m, m < A → pB (S.1 r 4 m) ∧ pB (S.1 r 5 m) ∧ pB (S.1 r 6 m) := by
  have hA := hX.2.1
  intro m hm
  have neg : pB (-1) := Or.inl (by decide)
  have pn : ∀ x, x < 6400 → pB (nI x) := fun x hx => Or.inr ⟨x, hx, rfl⟩
  rcases hX.2.2.1.2.1 m hm with ⟨h0, -, z1, z2, z3⟩ | ⟨h0, z | z | z | z | z | z⟩
  · rw [z1, z2, z3]; exact ⟨neg, neg, neg⟩
  · obtain ⟨_, ⟨e, he, z1⟩, z2, z3⟩ := z
    rw [z1, z2, z3]; exact ⟨pn e (by omega), neg, neg⟩
  · obtain ⟨_, ⟨x, hx, z1, _⟩, z2, g, hg, z3⟩ := z
    rw [z1, z3]
    refine ⟨pn x (by omega), ?_, pn g (by omega)⟩
    rcases z2 with z2 | ⟨y, hy, z2, _⟩
    · rw [z2]; exact neg
    · rw [z2]; exact pn y (by omega)
  · obtain ⟨_, ⟨x, y, hx, hy, z1, z2, _⟩, z3⟩ := z
    rw [z1, z2, z3]; exact ⟨pn x (by omega), pn y (by omega), neg⟩
  · obtain ⟨_, ⟨x, _, hx, z1, _⟩, z2, z3⟩ := z
    rw [z1, z2, z3]; exact ⟨pn x (by omega), neg, neg⟩
  · obtain ⟨_, ⟨x, y, _, hx, hy, z1, z2, _⟩, z3⟩ := z
    rw [z1, z2, z3]; exact ⟨pn x (by omega), pn y (by omega), neg⟩
  · obtain ⟨_, x, y, z, _, hx, hy, hz, _, z1, z2, z3, _⟩ := z
    rw [z1, z2, z3]; exact ⟨pn x (by omega), pn y (by omega), pn z (by omega)⟩
/-- the question begins: chains anew, the elements as they are -/
theorem ref_beginQ (h : Ref O r) (hn : 3000000 ≤ n) (hI : RI r E N A I S eS) :
    ∃ S1, G_XModel_begin O n r (thr S r 0) = some ((), S1) ∧ rOnly r S S1 ∧ S1.1 r 0 0 = 0 ∧ SameF r N S S1 ∧ (∀ j, j ≠ 0 → j ≠ 2 → j ≠ 7 → j ≠ 8 → S1.1 r j = S.1 r j) ∧ RunI r E N S1 S1 N ∧ StepOk O r n E N S1 eS ∧
      ∀ T AT, RunI r E N S1 T AT → ∃ T', G_XModel_beginState O n r T = some ((), T') ∧ RunI r E N S1 T' AT ∧ T' = setF T r 18 (T'.1 r 18) ∧ StOk r E AT T' (st0R S r) eS := by
  have hI' := hI
  obtain ⟨⟨⟨f1, f2, f3, f4, f5⟩, g2, g3, g4, g5, g6⟩, i2, i3, i4, i5, i6, i7, i8, i9, i10, i11, i12⟩ := hI
  have h3 := f5.1
  obtain ⟨S1, e1, o1, s1, n1, c1⟩ := ref_begin (O := O) (n := n) (S := thr S r 0) h (show N < 6400 by omega) (by omega) (by rw [thr_f (by decide)]; exact f1)
  have same : ∀ j, j ≠ 0 → j ≠ 2 → j ≠ 7 → j ≠ 8 → S1.1 r j = S.1 r j := fun j h0 h2 h7 h8 => by
    funext i
    rw [s1 j i h7 h8 h2, thr_f h0]
  have sF : SameF r N S S1 := ⟨fun j hj => same j (by omega) (by omega) (by omega) (by omega), fun m hm => ⟨by rw [same 3 (by decide) (by decide) (by decide) (by decide)], by rw [same 4 (by decide) (by decide) (by decide) (by decide)], by rw [same 5 (by decide) (by decide) (by decide) (by decide)], by rw [same 6 (by decide) (by decide) (by decide) (by decide)]⟩⟩
  have r3 := same 3 (by decide) (by decide) (by decide) (by decide)
  have r4 := same 4 (by decide) (by decide) (by decide) (by decide)
  have r5 := same 5 (by decide) (by decide) (by decide) (by decide)
  have r6 := same 6 (by decide) (by decide) (by decide) (by decide)
  have r9 := same 9 (by decide) (by decide) (by decide) (by decide)
  have r11 := same 11 (by decide) (by decide) (by decide) (by decide)
  have hX1 : Ext r S1 E N := ⟨n1, by omega, by rw [r3, r4, r5, r6]; exact f5, c1⟩
  have hR1 : RunI r E N S1 S1 N := ⟨hX1, ⟨Nat.le_refl N, fun m h1 h2 => by omega⟩, rOnly.refl, fun _ _ _ _ _ _ _ _ => rfl⟩
  have hStep : StepOk O r n E N S1 eS := by
    refine ⟨h, hn, f4, f3, by rw [same 1 (by decide) (by decide) (by decide) (by decide)]; exact f1, by rw [r9]; exact f2, by rw [r3, r4, r5, r6]; exact f5.2.1, ?_, ?_⟩
    · intro m e hm ha he
      rw [r4] at ha
      rw [r3]
      refine ⟨fun k3 => ?_, fun k4 => ?_⟩
      · obtain ⟨a, ha', ea, em⟩ := i3 m hm (Or.inl k3)
        have := (nI_eq (by omega) (by omega)).mp (ha.symm.trans ea)
        subst this
        obtain ⟨m', hm', em', _, _, w⟩ := i2 e ha'
        have := (nI_eq (by omega) (by omega)).mp (em.symm.trans em')
        subst this
        exact w.mp k3
      · obtain ⟨a, ha', ea, em⟩ := i3 m hm (Or.inr k4)
        have := (nI_eq (by omega) (by omega)).mp (ha.symm.trans ea)
        subst this
        obtain ⟨m', hm', em', _, _, w⟩ := i2 e ha'
        have := (nI_eq (by omega) (by omega)).mp (em.symm.trans em')
        subst this
        cases q : eS e with
        | false => rfl
        | true =>
          have := w.mpr q
          rw [k4] at this
          exact absurd this (by decide)
    · unfold NxOk
      rw [r3, r5, same 12 (by decide) (by decide) (by decide) (by decide)]
      exact i5
  refine ⟨S1, e1, thr_only.trans o1, by rw [s1 0 0 (by decide) (by decide) (by decide), thr_0], sF, same, hR1, hStep, fun T AT hT => ?_⟩
  have t9 : T.1 r 9 0 = nI E := by rw [hT.2.2.2 9 0 (by decide) (by decide) (by decide) (by decide) (by decide) (by omega), r9]; exact f2
  have t11 : ∀ e, T.1 r 11 e = S.1 r 11 e := fun e => by rw [hT.2.2.2 11 e (by decide) (by decide) (by decide) (by decide) (by decide) (by omega), r11]
  have rows := RunI_rows hT
  refine ⟨_, ref_beginState (O := O) (n := n) h (by omega) t9 f4, RunI_18 hT, by rw [setF_same], fun e he => ?_⟩
  obtain ⟨m, hm, em, hk, ha, w⟩ := i2 e he
  have te : tN (S.1 r 11 e) = m := by rw [em]; exact nI_clamp (by omega)
  have hN' := hT.2.1.1
  have ag : ∀ q, q < N → T.1 r 3 q = S.1 r 3 q ∧ T.1 r 4 q = S.1 r 4 q ∧ T.1 r 5 q = S.1 r 5 q ∧ T.1 r 6 q = S.1 r 6 q := fun q hq => by
    obtain ⟨q1, q2, q3, q4⟩ := rows q hq
    rw [q1, q2, q3, q4, r3, r4, r5, r6]
    exact ⟨rfl, rfl, rfl, rfl⟩
  refine ⟨m, by omega, ?_, ?_, ?_⟩
  · rw [setF_same]
    show (if e < E then T.1 r 11 e else T.1 r 18 e) = nI m
    rw [if_pos he, t11, em]
  · show cd _ _ _ _ m = _
    rw [setF_ne (by decide), setF_ne (by decide), setF_ne (by decide), setF_ne (by decide)]
    unfold st0R
    rw [te]
    exact cd_congr f5.2.1 (by omega) ag m hm
  · rw [setF_ne (by decide), setF_ne (by decide), wd_congr f5.2.1 (by omega) (fun q hq => (ag q hq).1) (fun q hq => (ag q hq).2.2.1) m hm]
    have hk9 : ¬ S.1 r 3 m = 9 := by rcases hk with q | q <;> rw [q] <;> decide
    rw [wd_n9 hk9]
    rcases hk with q | q
    · rw [w.mp q, q]; rfl
    · rw [q]
      cases z : eS e with
      | false => rfl
      | true =>
        have := w.mpr z
        rw [q] at this
        exact absurd this (by decide)
end RUN3
