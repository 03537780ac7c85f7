/-- x is the least e for which one of P fails; -1: none does -/
def Bst (F : (Nat → Nat) → Nat → Prop) (P : (Nat → Nat) → Prop) (x : Int32) : Prop := (x = -1 ∧ ∀ v e, P v → ¬ F v e) ∨ ∃ e, e ≤ 16 ∧ x = nI e ∧ (∃ v, P v ∧ F v e) ∧ ∀ v e', P v → e' < e → ¬ F v e'
theorem Bst_iff {F : (Nat → Nat) → Nat → Prop} {P P' : (Nat → Nat) → Prop} {x : Int32} (h : Bst F P x) (h1 : ∀ v, P' v → ∃ v', P v' ∧ ∀ e, F v e → F v' e) (h2 : ∀ v, P v → P' v) : Bst F P' x := by
  rcases h with ⟨hx, hn⟩ | ⟨e, he, hx, ⟨v, hv, hf⟩, hn⟩
  · refine Or.inl ⟨hx, fun v e hp hf => ?_⟩
    obtain ⟨v', hv', hi⟩ := h1 v hp
    exact hn v' e hv' (hi e hf)
  · refine Or.inr ⟨e, he, hx, ⟨v, h2 v hv, hf⟩, fun v e' hp hlt hf => ?_⟩
    obtain ⟨v', hv', hi⟩ := h1 v hp
    exact hn v' e' hv' hlt (hi e' hf)
section FW2
variable {O : qOb9} {r n E A I nw na nt : Nat} {S0 : qS} {kv : Int32} {iv c1 c2 τ w : Nat → Nat} {sn : Nat → Bool}
theorem FE_congr {K : Nat} {u v : Nat → Nat} {e : Nat} (h : ∀ i, i < K → u i = v i) (hf : FE r S0 A K I iv sn c1 c2 τ u e) : FE r S0 A K I iv sn c1 c2 τ v e := by
  unfold FE at hf ⊢
  rw [LU_congr h] at hf
  exact hf
/-- strings that go on from w -/
def goOn (nw K : Nat) (w v : Nat → Nat) : Prop := rgP tt1 v K ∧ ∀ i, i < nw → v i = w i
theorem ref_fw_35 (h : Ref O r) (hn : 3000000 ≤ n) (hE : E ≤ 16) (hX : Ext r S0 E A) (hM : MClo r A S0) (hR : RL r A nw na nt S0) (hQ : RQ r E A S0 kv I iv sn c1 c2) (hτ : ∀ c, τ c ≤ 1) :
    ∀ (d f : Nat) (u : Nat → Nat) (x : Int32) (S : qS), 8 ^ 7 ≤ N8 u (nw + na) + d → d < f → goOn nw (nw + na) w u → rFr r S0 S Jv → (∀ i, i < nw + na → S.1 r 27 i = nI (u i)) → VT r A S0 S τ → Bst (FE r S0 A (nw + na) I iv sn c1 c2 τ) (fun v => goOn nw (nw + na) w v ∧ lexLt (nw + na) v u) x →
      ∃ y S' u', G_XModel_failsWith_35 O n f r kv x 1 S = some (y, S') ∧ rFr r S0 S' Jv ∧ goOn nw (nw + na) w u' ∧ (∀ i, i < nw + na → S'.1 r 27 i = nI (u' i)) ∧ VT r A S0 S' τ ∧ Bst (FE r S0 A (nw + na) I iv sn c1 c2 τ) (goOn nw (nw + na) w) y := by
  have hR' := hR
  obtain ⟨r23, r24, r25, r7, r6, rW, rWa, rWo, rT, rTa, rTo, rWi⟩ := hR
  intro d
  induction d with
  | zero =>
    intro f u x S hd hf hu hF hfa hT hB
    exfalso
    have h8 := N8_lt (u := u) (n := nw + na) (fun i hi => by have := rg_le hu.1 hi; omega)
    have : 8 ^ (nw + na) ≤ 8 ^ 7 := Nat.pow_le_pow_right (by decide) r7
    omega
  | succ d ih =>
    intro f u x S hd hf hu hF hfa hT hB
    obtain ⟨f, rfl⟩ : ∃ q, f = q + 1 := ⟨f - 1, by omega⟩
    have hu7 : ∀ i, i < nw + na → u i ≤ 7 := fun i hi => by have := rg_le hu.1 hi; omega
    obtain ⟨v, S1, z1, z2, z3, z4, z5⟩ := ref_fw_body (O := O) (n := n) (l2 := x) h (by omega) hE hX hM hR' hQ hτ hu7 (G_XModel_failsWith_35 O n f) hF hfa hT
    have e35 : G_XModel_failsWith_35 O n (f + 1) r kv x 1 S = G_XModel_failsWith_101 O n (G_XModel_failsWith_35 O n f) r kv x v S1 := by
      rw [G_XModel_failsWith_35, if_neg (by decide)]
      exact z5
    rw [e35]
    have hfa1 : ∀ i, i < nw + na → S1.1 r 27 i = nI (u i) := fun i hi => by rw [z2]; exact hfa i hi
    have e23 : S1.1 r 23 0 = nI nw := by rw [z1.2 23 (by omega)]; exact r23
    have e24 : S1.1 r 24 0 = nI na := by rw [z1.2 24 (by omega)]; exact r24
    -- the best so far, with this string
    have best : ∃ b, G_XModel_failsWith_101 O n (G_XModel_failsWith_35 O n f) r kv x v S1 = G_XModel_failsWith_124 O n (G_XModel_failsWith_35 O n f) r kv b S1 ∧ Bst (FE r S0 A (nw + na) I iv sn c1 c2 τ) (fun v => goOn nw (nw + na) w v ∧ (lexLt (nw + na) v u ∨ ∀ i, i < nw + na → v i = u i)) b := by
      have old : ∀ v', (goOn nw (nw + na) w v' ∧ (lexLt (nw + na) v' u ∨ ∀ i, i < nw + na → v' i = u i)) → (goOn nw (nw + na) w v' ∧ lexLt (nw + na) v' u) ∨ ∀ e, FE r S0 A (nw + na) I iv sn c1 c2 τ v' e → FE r S0 A (nw + na) I iv sn c1 c2 τ u e := by
        rintro v' ⟨q1, q2 | q2⟩
        · exact Or.inl ⟨q1, q2⟩
        · exact Or.inr (fun e he => FE_congr q2 he)
      unfold G_XModel_failsWith_101
      rcases z4 with ⟨hv, hno⟩ | ⟨e, he16, hv, hfe, hmin⟩
      · rw [hv, if_pos (by decide)]
        refine ⟨x, rfl, ?_⟩
        rcases hB with ⟨hx, hn'⟩ | ⟨e, he, hx, ⟨v', hv', hf'⟩, hn'⟩
        · refine Or.inl ⟨hx, fun v' e hp hf' => ?_⟩
          rcases old v' hp with q | q
          · exact hn' v' e q hf'
          · exact hno e (q e hf')
        · refine Or.inr ⟨e, he, hx, ⟨v', ⟨hv'.1, Or.inl hv'.2⟩, hf'⟩, fun v'' e' hp hlt hf'' => ?_⟩
          rcases old v'' hp with q | q
          · exact hn' v'' e' q hlt hf''
          · exact hno e' (q e' hf'')
      · rw [hv, if_neg (nI_pos (by omega))]
        have self : goOn nw (nw + na) w u ∧ (lexLt (nw + na) u u ∨ ∀ i, i < nw + na → u i = u i) := ⟨hu, Or.inr fun _ _ => rfl⟩
        rcases hB with ⟨hx, hn'⟩ | ⟨e0, he0, hx, ⟨v', hv', hf'⟩, hn'⟩
        · rw [hx, if_pos (by decide)]
          refine ⟨nI e, rfl, Or.inr ⟨e, he16, rfl, ⟨u, self, hfe⟩, fun v'' e' hp hlt hf'' => ?_⟩⟩
          rcases old v'' hp with q | q
          · exact hn' v'' e' q hf''
          · exact hmin e' hlt (q e' hf'')
        · rw [hx, if_neg (nI_pos (by omega))]
          by_cases hle : e0 ≤ e
          · rw [if_pos (nI_le hle (by omega))]
            refine ⟨nI e0, rfl, Or.inr ⟨e0, he0, rfl, ⟨v', ⟨hv'.1, Or.inl hv'.2⟩, hf'⟩, fun v'' e' hp hlt hf'' => ?_⟩⟩
            rcases old v'' hp with q | q
            · exact hn' v'' e' q hlt hf''
            · exact hmin e' (by omega) (q e' hf'')
          · rw [if_neg (nI_ge (by omega) (by omega))]
            refine ⟨nI e, rfl, Or.inr ⟨e, he16, rfl, ⟨u, self, hfe⟩, fun v'' e' hp hlt hf'' => ?_⟩⟩
            rcases old v'' hp with q | q
            · exact hn' v'' e' q (by omega) hf''
            · exact hmin e' hlt (q e' hf'')
    obtain ⟨b, eb, hb⟩ := best
    rw [eb]
    unfold G_XModel_failsWith_124
    rw [rI h (by decide), e23, rI h (by decide), e23, rI h (by decide), e24, nI_add, rk h]
    rcases ref_goesOn (O := O) (n := n) (from' := nw) (to' := nw + na) h (by omega) (by omega) r7 hfa1 hu.1 with ⟨g1, g2⟩ | ⟨k, S2, k1, k2, k3, k4, g1, g2, g3, g4⟩
    · rw [g1, yC_some]
      obtain ⟨f', rfl⟩ : ∃ q, f = q + 1 := by
        refine ⟨f - 1, ?_⟩
        have h8 := N8_lt (u := u) (n := nw + na) (fun i hi => by have := rg_le hu.1 hi; omega)
        have : 8 ^ (nw + na) ≤ 8 ^ 7 := Nat.pow_le_pow_right (by decide) r7
        omega
      rw [G_XModel_failsWith_35, if_pos rfl]
      refine ⟨b, S1, u, rfl, z1, hu, hfa1, z3, Bst_iff hb (fun v' hv' => ⟨v', ⟨hv', ?_⟩, fun e he => he⟩) (fun v' hv' => hv'.1)⟩
      rcases lex_tri v' u (nw + na) with q | q | q
      · exact Or.inr q
      · exact Or.inl q
      · exact absurd q (nxt_last g2 hv'.1 (fun i hi => by rw [hv'.2 i hi, hu.2 i hi]))
    · rw [g1, yC_some]
      have hu' : goOn nw (nw + na) w (nxt u k) := ⟨nxt_rg hu.1 k3, fun i hi => by rw [nxt_lo (by omega)]; exact hu.2 i hi⟩
      have hlt := N8_lex (u := u) (v := nxt u k) (n := nw + na) (fun i hi => by have := rg_le hu.1 hi; omega) (fun i hi => by have := rg_le hu'.1 hi; omega) (nxt_lt k2)
      refine ih f (nxt u k) b S2 (by omega) (by omega) hu' ⟨z1.1.trans g2.1, fun j hj => by rw [g2.2 j (fun q => hj (Or.inr q)), z1.2 j hj]⟩ g3 (fun m hm hd hk => ?_) (Bst_iff hb (fun v' hv' => ⟨v', ⟨hv'.1, ?_⟩, fun e he => he⟩) (fun v' hv' => ⟨hv'.1, ?_⟩))
      · rw [g2.2 22 (by unfold J27; omega)]; exact z3 m hm hd hk
      · rcases lex_tri v' u (nw + na) with q | q | q
        · exact Or.inr q
        · exact Or.inl q
        · exact absurd hv'.2 (nxt_first k1 k4 hv'.1.1 (fun i hi => by rw [hv'.1.2 i hi, hu.2 i hi]) q)
      · rcases hv'.2 with q | q
        · rcases lex_tri v' (nxt u k) (nw + na) with z | z | z
          · obtain ⟨i, hi, he, hl⟩ := q
            have hlt' := nxt_lt (u := u) (k := k) (to' := nw + na) k2
            exact absurd (show lexLt (nw + na) (nxt u k) u from ⟨i, hi, fun j hj => (z j (by omega)).symm.trans (he j hj), by rw [← z i hi]; exact hl⟩) (fun c => lex_asym hlt' c)
          · exact z
          · exfalso
            obtain ⟨i, hi, he, hl⟩ := z
            obtain ⟨i', hi', he', hl'⟩ := q
            obtain ⟨i2, hi2, he2, hl2⟩ := nxt_lt (u := u) (k := k) (to' := nw + na) k2
            have n1 := N8_lex (u := v') (v := u) (n := nw + na) (fun i hi => by have := rg_le hv'.1.1 hi; omega) (fun i hi => by have := rg_le hu.1 hi; omega) ⟨i', hi', he', hl'⟩
            have n2 := N8_lex (u := nxt u k) (v := v') (n := nw + na) (fun i hi => by have := rg_le hu'.1 hi; omega) (fun i hi => by have := rg_le hv'.1.1 hi; omega) ⟨i, hi, he, hl⟩
            omega
        · obtain ⟨i2, hi2, he2, hl2⟩ := nxt_lt (u := u) (k := k) (to' := nw + na) k2
          exact ⟨i2, hi2, fun j hj => (q j (by omega)).trans (he2 j hj), by rw [q i2 hi2]; exact hl2⟩
/-- failsWith: the least claim that fails with some functions -/
theorem ref_failsWith (h : Ref O r) (hn : 3000000 ≤ n) (hE : E ≤ 16) (hX : Ext r S0 E A) (hM : MClo r A S0) (hR : RL r A nw na nt S0) (hQ : RQ r E A S0 kv I iv sn c1 c2) (hτ : ∀ c, τ c ≤ 1) {S : qS} (hw : rgP tt1 w nw) (hF : rFr r S0 S Jv) (hfa : ∀ i, i < nw → S.1 r 27 i = nI (w i)) (hT : VT r A S0 S τ) :
    ∃ y S', G_XModel_failsWith O n r kv S = some (y, S') ∧ rFr r S0 S' Jv ∧ (∀ i, i < nw → S'.1 r 27 i = nI (w i)) ∧ VT r A S0 S' τ ∧ Bst (FE r S0 A (nw + na) I iv sn c1 c2 τ) (goOn nw (nw + na) w) y := by
  have hR' := hR
  obtain ⟨r23, r24, r25, r7, r6, rW, rWa, rWo, rT, rTa, rTo, rWi⟩ := hR
  have loop : ∀ (d k f : Nat) (S : qS), nw ≤ k → k + d = nw + na → d < f → rFr r S0 S Jv → (∀ i, i < k → S.1 r 27 i = nI (if i < nw then w i else 0)) → VT r A S0 S τ → ∃ S', G_XModel_failsWith_7 O n f r kv (-1) (nI k) S = G_XModel_failsWith_35 O n n r kv (-1) 1 S' ∧ rFr r S0 S' Jv ∧ (∀ i, i < nw + na → S'.1 r 27 i = nI (if i < nw then w i else 0)) ∧ VT r A S0 S' τ := by
    intro d
    induction d with
    | zero =>
      intro k f S hk e hf hF hfa hT
      obtain ⟨f, rfl⟩ : ∃ q, f = q + 1 := ⟨f - 1, by omega⟩
      have e0 : k = nw + na := by omega
      subst e0
      have e23 : S.1 r 23 0 = nI nw := by rw [hF.2 23 (by omega)]; exact r23
      have e24 : S.1 r 24 0 = nI na := by rw [hF.2 24 (by omega)]; exact r24
      refine ⟨S, ?_, hF, hfa, hT⟩
      rw [G_XModel_failsWith_7, rI h (by decide), e23, rI h (by decide), e24, nI_add, if_pos (nI_le (by omega) (by omega))]
    | succ d ih =>
      intro k f S hk e hf hF hfa hT
      obtain ⟨f, rfl⟩ : ∃ q, f = q + 1 := ⟨f - 1, by omega⟩
      have e23 : S.1 r 23 0 = nI nw := by rw [hF.2 23 (by omega)]; exact r23
      have e24 : S.1 r 24 0 = nI na := by rw [hF.2 24 (by omega)]; exact r24
      have k27 : k < refN 27 := by show k < 7; omega
      rw [G_XModel_failsWith_7, rI h (by decide), e23, rI h (by decide), e24, nI_add, if_neg (nI_ge (by omega) (by omega)), rA h (by decide), rw' h (by decide) (by decide) k27, hB_eq, nI_1]
      refine ih (k + 1) f _ (by omega) (by omega) (by omega) (hF.up (Or.inr rfl)) (fun i hi => ?_) (fun m hm hd hk' => by rw [up3_f (by decide)]; exact hT m hm hd hk')
      by_cases z : i = k
      · rw [z, up3_v, if_neg (by omega)]; rfl
      · rw [up3_o z]; exact hfa i (by omega)
  have e23 : S.1 r 23 0 = nI nw := by rw [hF.2 23 (by omega)]; exact r23
  obtain ⟨S1, e1, f1, a1, t1⟩ := loop na nw n S (Nat.le_refl nw) rfl (by omega) hF (fun i hi => by rw [if_pos hi]; exact hfa i hi) hT
  let u0 : Nat → Nat := fun i => if i < nw then w i else 0
  have hu0 : goOn nw (nw + na) w u0 := by
    refine ⟨fun i hi _ => ?_, fun i hi => if_pos hi⟩
    by_cases z : i < nw
    · show (if i < nw then w i else 0) ≤ _
      rw [if_pos z, mxP_congr (v := w) (fun j hj _ => if_pos (by omega))]
      exact hw i z rfl
    · show (if i < nw then w i else 0) ≤ _
      rw [if_neg z]; exact Nat.zero_le _
  obtain ⟨y, S', u', e2, f2, g2, a2, t2, b2⟩ := ref_fw_35 (O := O) (n := n) (w := w) h hn hE hX hM hR' hQ hτ (8 ^ 7) n u0 (-1) S1 (by omega) (by omega) hu0 f1 a1 t1 (Or.inl ⟨rfl, fun v e hv => by
    exfalso
    obtain ⟨⟨q1, q2⟩, i, hi, he, hl⟩ := hv
    have hl' : v i < (if i < nw then w i else 0) := hl
    by_cases z : i < nw
    · rw [if_pos z, q2 i z] at hl'; omega
    · rw [if_neg z] at hl'; omega⟩)
  refine ⟨y, S', ?_, f2, fun i hi => ?_, t2, b2⟩
  · unfold G_XModel_failsWith
    rw [rI h (by decide), e23, e1]
    exact e2
  · rw [a2 i (by omega), g2.2 i hi]
end FW2
