/-! THE REFERENCE LOOKS AT ALL FUNCTIONS -/
def wlc (r : Nat) (S0 : qS) (k : Nat) : Nat := rCd S0 r (tN (S0.1 r 26 k))
noncomputable def ixF (r : Nat) (S0 : qS) (K c : Nat) : Nat := Classical.epsilon (fun k => k < K ∧ wlc r S0 k = c)
/-- leaves: words by their place in the list, truths by τ -/
noncomputable def LU (r : Nat) (S0 : qS) (K : Nat) (τ u : Nat → Nat) (c : Nat) : Nat := if p1 c = 3 ∨ p1 c = 5 then (if ixF r S0 K c < K then u (ixF r S0 K c) else 0) else τ c
def VT (r A : Nat) (S0 S : qS) (τ : Nat → Nat) : Prop := ∀ m, m < A → dpN S0 r m → p1 (rCd S0 r m) = 2 ∨ p1 (rCd S0 r m) = 4 → S.1 r 22 m = nI (τ (rCd S0 r m))
abbrev Jv (j : Nat) : Prop := j = 22 ∨ j = 27
section FW
variable {O : qOb9} {r n E A I nw na nt : Nat} {S0 : qS} {kv : Int32} {iv c1 c2 τ : Nat → Nat} {sn : Nat → Bool}
theorem ix_w (hE : E ≤ 16) (hX : Ext r S0 E A) (hR : RL r A nw na nt S0) {k : Nat} (hk : k < nw + na) : ixF r S0 (nw + na) (wlc r S0 k) = k := by
  have hA := hX.2.1
  obtain ⟨r23, r24, r25, r7, r6, rW, rWa, rWo, rT, rTa, rTo, rWi⟩ := hR
  obtain ⟨h1, h2⟩ := Classical.epsilon_spec (p := fun k' => k' < nw + na ∧ wlc r S0 k' = wlc r S0 k) ⟨k, hk, rfl⟩
  show Classical.epsilon (fun k' => k' < nw + na ∧ wlc r S0 k' = wlc r S0 k) = k
  generalize Classical.epsilon (fun k' => k' < nw + na ∧ wlc r S0 k' = wlc r S0 k) = k' at h1 h2 ⊢
  obtain ⟨m, hm, em, _⟩ := rW k hk
  obtain ⟨m', hm', em', _⟩ := rW k' h1
  have t1 : tN (S0.1 r 26 k) = m := by rw [em]; exact nI_clamp (by omega)
  have t2 : tN (S0.1 r 26 k') = m' := by rw [em']; exact nI_clamp (by omega)
  unfold wlc at h2
  rw [t1, t2] at h2
  have := cd_inj hX.2.2.1 (by omega) hE m' m hm' hm h2
  subst this
  exact rWi k' k m' h1 hk hm' em' em
theorem LU_w (hE : E ≤ 16) (hX : Ext r S0 E A) (hR : RL r A nw na nt S0) {u : Nat → Nat} {k : Nat} (hk : k < nw + na) : LU r S0 (nw + na) τ u (wlc r S0 k) = u k ∧ (k < nw → p1 (wlc r S0 k) = 3) ∧ (nw ≤ k → p1 (wlc r S0 k) = 5) := by
  have hA := hX.2.1
  have hi := ix_w hE hX hR hk
  obtain ⟨r23, r24, r25, r7, r6, rW, rWa, rWo, rT, rTa, rTo, rWi⟩ := hR
  obtain ⟨m, hm, em, dm, k3, k5⟩ := rW k hk
  have t1 : tN (S0.1 r 26 k) = m := by rw [em]; exact nI_clamp (by omega)
  have e1 : wlc r S0 k = rCd S0 r m := by unfold wlc; rw [t1]
  have kk := cd_kind hX.2.2.1.2.1 (by omega) hE hm
  have q3 : k < nw → p1 (wlc r S0 k) = 3 := fun q => by
    have := k3 q
    rw [kk.1] at this
    rw [e1]
    exact (nI_eq (a := p1 (rCd S0 r m)) (b := 3) (by have := kk.2.1; show p1 (cd _ _ _ _ m) < _; omega) (by decide)).mp this
  have q5 : nw ≤ k → p1 (wlc r S0 k) = 5 := fun q => by
    have := k5 q
    rw [kk.1] at this
    rw [e1]
    exact (nI_eq (a := p1 (rCd S0 r m)) (b := 5) (by have := kk.2.1; show p1 (cd _ _ _ _ m) < _; omega) (by decide)).mp this
  refine ⟨?_, q3, q5⟩
  unfold LU
  rw [if_pos (by by_cases q : k < nw; exact Or.inl (q3 q); exact Or.inr (q5 (by omega))), hi, if_pos hk]
theorem LU_LB {K : Nat} {u : Nat → Nat} (hu : ∀ i, i < K → u i ≤ 7) (hτ : ∀ c, τ c ≤ 1) : LB (LU r S0 K τ u) := by
  constructor
  · intro c
    unfold LU
    by_cases q : p1 c = 3 ∨ p1 c = 5
    · rw [if_pos q]
      by_cases z : ixF r S0 K c < K
      · rw [if_pos z]; have := hu _ z; omega
      · rw [if_neg z]; omega
    · rw [if_neg q]; have := hτ c; omega
  · intro c hc
    unfold LU
    rw [if_neg (by omega)]; exact hτ c
theorem LU_congr {K : Nat} {u v : Nat → Nat} (h : ∀ i, i < K → u i = v i) : LU r S0 K τ u = LU r S0 K τ v := by
  funext c
  unfold LU
  by_cases q : p1 c = 3 ∨ p1 c = 5
  · rw [if_pos q, if_pos q]
    by_cases z : ixF r S0 K c < K
    · rw [if_pos z, if_pos z, h _ z]
    · rw [if_neg z, if_neg z]
  · rw [if_neg q, if_neg q]
/-- values go to the words' nodes -/
theorem ref_fw_42 (h : Ref O r) (hE : E ≤ 16) (hX : Ext r S0 E A) (hR : RL r A nw na nt S0) {u : Nat → Nat} {l2 : Int32} (rec35 : Nat → Int32 → Int32 → Int32 → qS → Option (Int32 × qS)) :
    ∀ (d k f : Nat) (S : qS), k + d = nw + na → d < f → rFr r S0 S Jv → (∀ i, i < nw + na → S.1 r 27 i = nI (u i)) → VT r A S0 S τ → (∀ i m, i < k → m < A → S0.1 r 26 i = nI m → S.1 r 22 m = nI (u i)) →
      ∃ S' f', rFr r S0 S' Jv ∧ S'.1 r 27 = S.1 r 27 ∧ VT r A S0 S' τ ∧ (∀ i m, i < nw + na → m < A → S0.1 r 26 i = nI m → S'.1 r 22 m = nI (u i)) ∧ G_XModel_failsWith_42 O n rec35 f r kv l2 (nI k) S = G_XModel_failsWith_42 O n rec35 (f' + 1) r kv l2 (nI (nw + na)) S' := by
  have hA := hX.2.1
  have rOk := hX.2.2.1.2.1
  obtain ⟨r23, r24, r25, r7, r6, rW, rWa, rWo, rT, rTa, rTo, rWi⟩ := hR
  intro d
  induction d with
  | zero =>
    intro k f S e hf hF hu hT hv
    obtain ⟨f, rfl⟩ : ∃ q, f = q + 1 := ⟨f - 1, by omega⟩
    have e0 : k = nw + na := by omega
    subst e0
    exact ⟨S, f, hF, rfl, hT, hv, rfl⟩
  | succ d ih =>
    intro k f S e hf hF hu hT hv
    obtain ⟨f, rfl⟩ : ∃ q, f = q + 1 := ⟨f - 1, by omega⟩
    obtain ⟨m, hm, em, dm, k3, k5⟩ := rW k (by omega)
    have k26 : k < refN 26 := by show k < 7; omega
    have k27 : k < refN 27 := by show k < 7; omega
    have m22 : m < refN 22 := by show m < 6400; omega
    have e23 : S.1 r 23 0 = nI nw := by rw [hF.2 23 (by omega)]; exact r23
    have e24 : S.1 r 24 0 = nI na := by rw [hF.2 24 (by omega)]; exact r24
    obtain ⟨S', f', g1, g2, g3, g4, g5⟩ := ih (k + 1) f (up3 S.1 r 22 m (nI (u k)), S.2) (by omega) (by omega) (hF.up (Or.inl rfl)) (fun i hi => by rw [up3_f (by decide)]; exact hu i hi) (fun m' hm' hd' hk' => by
      rw [up3_o]
      · exact hT m' hm' hd' hk'
      · intro z
        subst z
        have kk := (cd_kind rOk (by omega) hE hm).1
        by_cases q : k < nw
        · have := k3 q
          rw [kk] at this
          have z2 := (nI_eq (a := p1 (rCd S0 r m')) (b := 3) (by have := (cd_kind rOk (by omega) hE hm).2.1; show p1 (cd _ _ _ _ m') < _; omega) (by decide)).mp this
          omega
        · have := k5 (by omega)
          rw [kk] at this
          have z2 := (nI_eq (a := p1 (rCd S0 r m')) (b := 5) (by have := (cd_kind rOk (by omega) hE hm).2.1; show p1 (cd _ _ _ _ m') < _; omega) (by decide)).mp this
          omega) (fun i m' hi hm' em' => by
      by_cases z : i = k
      · subst z
        have := (nI_eq (by omega) (by omega)).mp (em.symm.trans em')
        rw [← this, up3_v]
      · rw [up3_o]
        · exact hv i m' (by omega) hm' em'
        · intro w
          subst w
          exact z (rWi i k m' (by omega) (by omega) hm' em' em))
    refine ⟨S', f', g1, by rw [g2, up3_f (by decide)], g3, g4, ?_⟩
    rw [G_XModel_failsWith_42, rI h (by decide), e23, rI h (by decide), e24, nI_add, if_neg (nI_ge (by omega) (by omega)), rA h (by decide), rA h (by decide), rl h (by decide) (by decide) k26, hF.2 26 (by omega), em, rA h (by decide), rl h (by decide) (by decide) k27, hu k (by omega), rw' h (by decide) (by decide) m22, hB_eq, nI_1]
    exact g5
/-- a string of functions' values fails at e -/
def FE (r : Nat) (S0 : qS) (A K I : Nat) (iv : Nat → Nat) (sn : Nat → Bool) (c1 c2 τ u : Nat → Nat) (e : Nat) : Prop := Fun (DC r A S0) (LU r S0 K τ u) ∧ FailsV I iv sn c1 c2 (val (LU r S0 K τ u)) e
theorem ref_fw_body (h : Ref O r) (hn : 7000 ≤ n) (hE : E ≤ 16) (hX : Ext r S0 E A) (hM : MClo r A S0) (hR : RL r A nw na nt S0) (hQ : RQ r E A S0 kv I iv sn c1 c2) (hτ : ∀ c, τ c ≤ 1) {u : Nat → Nat} (hu7 : ∀ i, i < nw + na → u i ≤ 7) {l2 : Int32} (rec35 : Nat → Int32 → Int32 → Int32 → qS → Option (Int32 × qS)) {S : qS} (hF : rFr r S0 S Jv) (hu : ∀ i, i < nw + na → S.1 r 27 i = nI (u i)) (hT : VT r A S0 S τ) :
    ∃ v S', rFr r S0 S' Jv ∧ S'.1 r 27 = S.1 r 27 ∧ VT r A S0 S' τ ∧ ((v = -1 ∧ ∀ e, ¬ FE r S0 A (nw + na) I iv sn c1 c2 τ u e) ∨ ∃ e, e ≤ 16 ∧ v = nI e ∧ FE r S0 A (nw + na) I iv sn c1 c2 τ u e ∧ ∀ e', e' < e → ¬ FE r S0 A (nw + na) I iv sn c1 c2 τ u e') ∧
      G_XModel_failsWith_42 O n rec35 n r kv l2 0 S = G_XModel_failsWith_101 O n rec35 r kv l2 v S' := by
  have hA := hX.2.1
  have rOk := hX.2.2.1.2.1
  have hR' := hR
  obtain ⟨r23, r24, r25, r7, r6, rW, rWa, rWo, rT, rTa, rTo, rWi⟩ := hR
  obtain ⟨S1, f1, g1, g2, g3, g4, g5⟩ := ref_fw_42 (O := O) (n := n) (kv := kv) (l2 := l2) h hE hX hR' rec35 (nw + na) 0 n S (by omega) (by omega) hF hu hT (fun i m hi => absurd hi (Nat.not_lt_zero i))
  rw [nI_0] at g5
  rw [g5]
  have hLB : LB (LU r S0 (nw + na) τ u) := LU_LB hu7 hτ
  have hVL : VL r A S0 S1 (LU r S0 (nw + na) τ u) := by
    intro m hm hd k2 k5
    have kk := cd_kind rOk (by omega) hE hm
    by_cases q : p1 (rCd S0 r m) = 2 ∨ p1 (rCd S0 r m) = 4
    · have e1 : LU r S0 (nw + na) τ u (rCd S0 r m) = τ (rCd S0 r m) := by unfold LU; rw [if_neg (by omega)]
      rw [e1]; exact g3 m hm hd q
    · have ek : ∃ k, k < nw + na ∧ S0.1 r 26 k = nI m := by
        by_cases z : p1 (rCd S0 r m) = 3
        · obtain ⟨k, hk, em⟩ := (rWa m hm hd).1 (by rw [kk.1, show p1 (cd _ _ _ _ m) = 3 from z]; rfl)
          exact ⟨k, by omega, em⟩
        · obtain ⟨k, _, hk, em⟩ := (rWa m hm hd).2 (by rw [kk.1, show p1 (cd _ _ _ _ m) = 5 by show p1 (rCd S0 r m) = 5; omega]; rfl)
          exact ⟨k, hk, em⟩
      obtain ⟨k, hk, em⟩ := ek
      have e1 := (LU_w (τ := τ) (u := u) hE hX hR' hk).1
      have t1 : tN (S0.1 r 26 k) = m := by rw [em]; exact nI_clamp (by omega)
      unfold wlc at e1
      rw [t1] at e1
      rw [e1]
      exact g4 k m hk hm em
  have e23 : S1.1 r 23 0 = nI nw := by rw [g1.2 23 (by omega)]; exact r23
  have e24 : S1.1 r 24 0 = nI na := by rw [g1.2 24 (by omega)]; exact r24
  -- work
  have wk : ∃ S2, G_XModel_work O n r S1 = some ((), S2) ∧ rFr r S0 S2 Jv ∧ S2.1 r 27 = S1.1 r 27 ∧ VT r A S0 S2 τ ∧ ∀ m, m < A → dpN S0 r m → S2.1 r 22 m = nI (val (LU r S0 (nw + na) τ u) (rCd S0 r m)) := by
    have same : ∀ j, j ≠ 22 → j ≠ 27 → S1.1 r j = S0.1 r j := fun j h1 h2 => g1.2 j (fun q => q.elim h1 h2)
    have hX1 : Ext r S1 E A := by
      obtain ⟨y1, y2, y3, y4⟩ := hX
      have hr : ∀ i', rowH (S1.1 r) i' = rowH (S0.1 r) i' := fun i' => by
        unfold rowH
        rw [same 3 (by decide) (by decide), same 4 (by decide) (by decide), same 5 (by decide) (by decide), same 6 (by decide) (by decide)]
      refine ⟨by rw [same 2 (by decide) (by decide)]; exact y1, y2, by rw [same 3 (by decide) (by decide), same 4 (by decide) (by decide), same 5 (by decide) (by decide), same 6 (by decide) (by decide)]; exact y3, fun hh hb => ?_, fun i' hi => ?_⟩
      · rw [same 7 (by decide) (by decide), y4.1 hh hb]
        exact (rTop_congr fun i' _ => hr i').symm
      · rw [same 8 (by decide) (by decide), y4.2 i' hi, hr]
        exact (rTop_congr fun i' _ => hr i').symm
    have cde : ∀ m, rCd S1 r m = rCd S0 r m := fun m => by
      show cd _ _ _ _ m = cd _ _ _ _ m
      rw [same 3 (by decide) (by decide), same 4 (by decide) (by decide), same 5 (by decide) (by decide), same 6 (by decide) (by decide)]
    have dpe : ∀ m, dpN S1 r m ↔ dpN S0 r m := fun m => by
      show ¬ S1.1 r 21 m = 0 ↔ _
      rw [same 21 (by decide) (by decide)]
    have hM1 : MClo r A S1 := fun p q hp hq hd hpt => by
      rw [same 3 (by decide) (by decide), same 4 (by decide) (by decide), same 5 (by decide) (by decide), same 6 (by decide) (by decide)] at hpt
      exact (dpe q).mpr (hM p q hp hq ((dpe p).mp hd) hpt)
    have hVL1 : VL r A S1 S1 (LU r S0 (nw + na) τ u) := fun m hm hd k1 k2 => by
      rw [cde] at k1 k2 ⊢
      exact hVL m hm ((dpe m).mp hd) k1 k2
    obtain ⟨S2, w1, w2, w3, w4⟩ := ref_work_2 (O := O) (n := n) h hE hX1 hM1 hLB A 0 n S1 (by omega) (by omega) rFr.refl hVL1 (fun m hm => absurd hm (Nat.not_lt_zero m))
    rw [nI_0] at w1
    refine ⟨S2, w1, ⟨g1.1.trans w2.1, fun j hj => ?_⟩, w2.2 27 (by unfold J22; omega), fun m hm hd hk => ?_, fun m hm hd => ?_⟩
    · rw [w2.2 j (fun q => hj (Or.inl q)), g1.2 j hj]
    · have := w3 m hm ((dpe m).mpr hd) (by rw [cde]; omega) (by rw [cde]; omega)
      rw [cde] at this
      rw [this]
      unfold LU
      rw [if_neg (by omega)]
    · have := w4 m hm ((dpe m).mpr hd)
      rw [cde] at this
      exact this
  obtain ⟨S2, w1, w2, w3, w4, w5⟩ := wk
  obtain ⟨b, b1, b2⟩ := ref_areF (O := O) (n := n) h hn hE hX hM hR' hLB w2 w5
  obtain ⟨v, v1, v2⟩ := ref_failing (O := O) (n := n) h hn hE hX hM hLB w2 w5 hQ
  rw [G_XModel_failsWith_42, rI h (by decide), e23, rI h (by decide), e24, nI_add, if_pos (nI_le (by omega) (by omega)), rk h, w1, yV_some, rk h, b2, yC_some]
  cases b with
  | false =>
    rw [if_pos (show bN false = 0 by decide)]
    refine ⟨-1, S2, w2, by rw [w3, g2], w4, Or.inl ⟨rfl, fun e q => ?_⟩, rfl⟩
    have := b1.mpr q.1
    cases this
  | true =>
    have hfun := b1.mp rfl
    rw [if_neg (show ¬ bN true = 0 by decide), rk h, v1, yC_some]
    refine ⟨v, S2, w2, by rw [w3, g2], w4, ?_, rfl⟩
    rcases v2 with ⟨z1, z2⟩ | ⟨e, z0, z1, z2, z3⟩
    · exact Or.inl ⟨z1, fun e q => z2 e q.2⟩
    · exact Or.inr ⟨e, z0, z1, ⟨hfun, z2⟩, fun e' he' q => z3 e' he' q.2⟩
end FW
