/-! THE REFERENCE ASKS -/
def tlc (r : Nat) (S0 : qS) (k : Nat) : Nat := rCd S0 r (tN (S0.1 r 28 k))
noncomputable def ixT (r : Nat) (S0 : qS) (nt c : Nat) : Nat := Classical.epsilon (fun k => k < nt ∧ tlc r S0 k = c)
/-- the truths of state number t -/
noncomputable def tau (r : Nat) (S0 : qS) (nt t c : Nat) : Nat := if ixT r S0 nt c < nt then t / 2 ^ (nt - 1 - ixT r S0 nt c) % 2 else 0
theorem tau_01 {r nt t c : Nat} {S0 : qS} : tau r S0 nt t c ≤ 1 := by
  unfold tau
  by_cases q : ixT r S0 nt c < nt
  · rw [if_pos q]
    have := Nat.mod_lt (t / 2 ^ (nt - 1 - ixT r S0 nt c)) (show 0 < 2 by decide)
    omega
  · rw [if_neg q]; omega
set_option maxRecDepth 100000 in
theorem bit_at : ∀ sh, sh < 6 → ∀ t, t < 64 → ((nI t >>> (nI sh &&& 31)) &&& 1) = nI (t / 2 ^ sh % 2) := by decide
theorem shl_at : ∀ k, k < 7 → ((1 : Int32) <<< (nI k &&& 31)) = nI (2 ^ k) := by decide
section ASK
variable {O : qOb9} {r n E A I nw na nt : Nat} {S0 : qS} {kv : Int32} {iv c1 c2 : Nat → Nat} {sn : Nat → Bool}
theorem tau_w (hE : E ≤ 16) (hX : Ext r S0 E A) (hR : RL r A nw na nt S0) {t k : Nat} (hk : k < nt) : tau r S0 nt t (tlc r S0 k) = t / 2 ^ (nt - 1 - k) % 2 := by
  have hA := hX.2.1
  obtain ⟨r23, r24, r25, r7, r6, rW, rWa, rWo, rT, rTa, rTo, rWi⟩ := hR
  have e : ixT r S0 nt (tlc r S0 k) = k := by
    obtain ⟨h1, h2⟩ := Classical.epsilon_spec (p := fun k' => k' < nt ∧ tlc r S0 k' = tlc r S0 k) ⟨k, hk, rfl⟩
    show Classical.epsilon (fun k' => k' < nt ∧ tlc r S0 k' = tlc r S0 k) = k
    generalize Classical.epsilon (fun k' => k' < nt ∧ tlc r S0 k' = tlc r S0 k) = k' at h1 h2 ⊢
    obtain ⟨m, hm, em, _⟩ := rT k hk
    obtain ⟨m', hm', em', _⟩ := rT k' h1
    have t1 : tN (S0.1 r 28 k) = m := by rw [em]; exact nI_clamp (by omega)
    have t2 : tN (S0.1 r 28 k') = m' := by rw [em']; exact nI_clamp (by omega)
    unfold tlc at h2
    rw [t1, t2] at h2
    have := cd_inj hX.2.2.1 (by omega) hE m' m hm' hm h2
    subst this
    rcases Nat.lt_trichotomy k k' with q | q | q
    · obtain ⟨z1, z2⟩ := rTo k k' m' m' q h1 em em' hm hm
      have := z2 z1; omega
    · exact q.symm
    · obtain ⟨z1, z2⟩ := rTo k' k m' m' q hk em' em hm hm
      have := z2 z1; omega
  unfold tau
  rw [e, if_pos hk]
/-- truths get the values of state t -/
theorem ref_ask_43 (h : Ref O r) (hE : E ≤ 16) (hX : Ext r S0 E A) (hR : RL r A nw na nt S0) {t : Nat} (ht : t < 2 ^ nt) (rec31 : Nat → Int32 → Int32 → qS → Option (Int32 × qS)) :
    ∀ (d k f : Nat) (S : qS), k + d = nt → d < f → rFr r S0 S Jv → (∀ i m, i < k → m < A → S0.1 r 28 i = nI m → S.1 r 22 m = nI (tau r S0 nt t (rCd S0 r m))) →
      ∃ S', rFr r S0 S' Jv ∧ VT r A S0 S' (tau r S0 nt t) ∧ G_XModel_ask_43 O n rec31 f r kv (nI t) (nI k) S = G_XModel_ask_82 O n rec31 n r kv (nI t) 0 S' := by
  have hA := hX.2.1
  have rOk := hX.2.2.1.2.1
  have hR' := hR
  obtain ⟨r23, r24, r25, r7, r6, rW, rWa, rWo, rT, rTa, rTo, rWi⟩ := hR
  have h64 : t < 64 := Nat.lt_of_lt_of_le ht (Nat.le_trans (Nat.pow_le_pow_right (by decide) r6) (by decide))
  intro d
  induction d with
  | zero =>
    intro k f S e hf hF hv
    obtain ⟨f, rfl⟩ : ∃ q, f = q + 1 := ⟨f - 1, by omega⟩
    have e0 : k = nt := by omega
    subst e0
    refine ⟨S, hF, fun m hm hd hk => ?_, ?_⟩
    · have kk := (cd_kind rOk (by omega) hE hm).1
      obtain ⟨k', hk', em⟩ := rTa m hm hd (by
        rcases hk with q | q
        · right; rw [kk, show p1 (cd _ _ _ _ m) = 2 from q]; rfl
        · left; rw [kk, show p1 (cd _ _ _ _ m) = 4 from q]; rfl)
      exact hv k' m hk' hm em
    · rw [G_XModel_ask_43, rI h (by decide), hF.2 25 (by omega), r25, if_pos (nI_le (by omega) (by omega))]
  | succ d ih =>
    intro k f S e hf hF hv
    obtain ⟨f, rfl⟩ : ∃ q, f = q + 1 := ⟨f - 1, by omega⟩
    obtain ⟨m, hm, em, dm, _⟩ := rT k (by omega)
    have k28 : k < refN 28 := by show k < 6; omega
    have m22 : m < refN 22 := by show m < 6400; omega
    have t1 : tN (S0.1 r 28 k) = m := by rw [em]; exact nI_clamp (by omega)
    have tw := tau_w (t := t) hE hX hR' (show k < nt by omega)
    unfold tlc at tw
    rw [t1] at tw
    have sh : nI nt - 1 - nI k = nI (nt - 1 - k) := by
      rw [show (1 : Int32) = nI 1 from rfl, nI_sub (by omega), nI_sub (by omega)]
    rw [G_XModel_ask_43, rI h (by decide), hF.2 25 (by omega), r25, if_neg (nI_ge (by omega) (by omega)), rA h (by decide), rA h (by decide), rl h (by decide) (by decide) k28, hF.2 28 (by omega), em, rI h (by decide), hF.2 25 (by omega), r25, sh, bit_at (nt - 1 - k) (by omega) t h64, rw' h (by decide) (by decide) m22, hB_eq, nI_1]
    refine ih (k + 1) f _ (by omega) (by omega) (hF.up (Or.inl rfl)) (fun i m' hi hm' em' => ?_)
    by_cases z : m' = m
    · rw [z, up3_v, tw]
    · rw [up3_o z]
      refine hv i m' ?_ hm' em'
      by_cases w : i = k
      · exfalso
        subst w
        exact z ((nI_eq (by omega) (by omega)).mp (em'.symm.trans em))
      · omega
theorem ref_ask_82 (h : Ref O r) (hR : RL r A nw na nt S0) {l2 : Int32} (rec31 : Nat → Int32 → Int32 → qS → Option (Int32 × qS)) :
    ∀ (d k f : Nat) (S : qS), k + d = nw → d < f → rFr r S0 S Jv → (∀ i, i < k → S.1 r 27 i = 0) →
      ∃ S', rFr r S0 S' Jv ∧ S'.1 r 22 = S.1 r 22 ∧ (∀ i, i < nw → S'.1 r 27 i = 0) ∧ G_XModel_ask_82 O n rec31 f r kv l2 (nI k) S = G_XModel_ask_105 O n rec31 n r kv l2 1 S' := by
  obtain ⟨r23, r24, r25, r7, r6, rW, rWa, rWo, rT, rTa, rTo, rWi⟩ := hR
  intro d
  induction d with
  | zero =>
    intro k f S e hf hF hv
    obtain ⟨f, rfl⟩ : ∃ q, f = q + 1 := ⟨f - 1, by omega⟩
    have e0 : k = nw := by omega
    subst e0
    refine ⟨S, hF, rfl, hv, ?_⟩
    rw [G_XModel_ask_82, rI h (by decide), hF.2 23 (by omega), r23, if_pos (nI_le (by omega) (by omega))]
  | succ d ih =>
    intro k f S e hf hF hv
    obtain ⟨f, rfl⟩ : ∃ q, f = q + 1 := ⟨f - 1, by omega⟩
    have k27 : k < refN 27 := by show k < 7; omega
    rw [G_XModel_ask_82, rI h (by decide), hF.2 23 (by omega), r23, if_neg (nI_ge (by omega) (by omega)), rA h (by decide), rw' h (by decide) (by decide) k27, hB_eq, nI_1]
    obtain ⟨S', g1, g2, g3, g4⟩ := ih (k + 1) f (up3 S.1 r 27 k 0, S.2) (by omega) (by omega) (hF.up (Or.inr rfl)) (fun i hi => by
      by_cases z : i = k
      · rw [z, up3_v]
      · rw [up3_o z]; exact hv i (by omega))
    exact ⟨S', g1, by rw [g2, up3_f (by decide)], g3, g4⟩
/-- some functions make this state fail at e -/
def FT (r : Nat) (S0 : qS) (A nw na nt I : Nat) (iv : Nat → Nat) (sn : Nat → Bool) (c1 c2 : Nat → Nat) (t : Nat) (w : Nat → Nat) (e : Nat) : Prop := ∃ v, goOn nw (nw + na) w v ∧ FE r S0 A (nw + na) I iv sn c1 c2 (tau r S0 nt t) v e
abbrev Jk (j : Nat) : Prop := j = 22 ∨ j = 27 ∨ j = 31 ∨ j = 32 ∨ j = 33 ∨ j = 34 ∨ j = 35
/-- the first state that fails is kept -/
def Kept0 (r : Nat) (S0 : qS) (E A nw na nt I : Nat) (iv : Nat → Nat) (sn : Nat → Bool) (c1 c2 : Nat → Nat) (S' : qS) : Prop :=
  ∃ t w e, t < 2 ^ nt ∧ rgP tt1 w nw ∧ e ≤ 16 ∧ FT r S0 A nw na nt I iv sn c1 c2 t w e ∧ (∀ e', e' < e → ¬ FT r S0 A nw na nt I iv sn c1 c2 t w e') ∧ (∀ t' w', rgP tt1 w' nw → (t' < t ∨ (t' = t ∧ lexLt nw w' w)) → ∀ e', ¬ FT r S0 A nw na nt I iv sn c1 c2 t' w' e') ∧
    rFr r S0 S' Jk ∧ S'.1 r 31 0 = 1 ∧ (∀ e m, e < E → m < A → S0.1 r 11 e = nI m → S'.1 r 32 e = kpt r A (nw + na) S0 (tau r S0 nt t) w m) ∧ S'.1 r 33 0 = (if S0.1 r 21 2 = 0 then 0 else nI (tau r S0 nt t cX)) ∧ S'.1 r 34 0 = nI e ∧ S'.1 r 35 0 = nI E
theorem ref_ask_105 (h : Ref O r) (hn : 3000000 ≤ n) (hE : E ≤ 16) (hX : Ext r S0 E A) (hM : MClo r A S0) (hR : RL r A nw na nt S0) (hQ : RQ r E A S0 kv I iv sn c1 c2) (hEL : EL r E A S0) {t : Nat} (ht : t < 2 ^ nt) (hbefore : ∀ t' w', rgP tt1 w' nw → t' < t → ∀ e', ¬ FT r S0 A nw na nt I iv sn c1 c2 t' w' e') (rec31 : Nat → Int32 → Int32 → qS → Option (Int32 × qS)) :
    ∀ (d f : Nat) (w : Nat → Nat) (S : qS), 8 ^ 7 ≤ N8 w nw + d → d < f → rgP tt1 w nw → rFr r S0 S Jv → (∀ i, i < nw → S.1 r 27 i = nI (w i)) → VT r A S0 S (tau r S0 nt t) → (∀ w', rgP tt1 w' nw → lexLt nw w' w → ∀ e', ¬ FT r S0 A nw na nt I iv sn c1 c2 t w' e') →
      (∃ S', G_XModel_ask_105 O n rec31 f r kv (nI t) 1 S = some (0, S') ∧ Kept0 r S0 E A nw na nt I iv sn c1 c2 S') ∨
      (∃ S', G_XModel_ask_105 O n rec31 f r kv (nI t) 1 S = rec31 r kv (nI (t + 1)) S' ∧ rFr r S0 S' Jv ∧ ∀ w', rgP tt1 w' nw → ∀ e', ¬ FT r S0 A nw na nt I iv sn c1 c2 t w' e') := by
  have hA := hX.2.1
  have hR' := hR
  obtain ⟨r23, r24, r25, r7, r6, rW, rWa, rWo, rT, rTa, rTo, rWi⟩ := hR
  intro d
  induction d with
  | zero =>
    intro f w S hd hf hw hF hfa hT hbw
    exfalso
    have h8 := N8_lt (u := w) (n := nw) (fun i hi => by have := rg_le hw hi; omega)
    have : 8 ^ nw ≤ 8 ^ 7 := Nat.pow_le_pow_right (by decide) (by omega)
    omega
  | succ d ih =>
    intro f w S hd hf hw hF hfa hT hbw
    obtain ⟨f, rfl⟩ : ∃ q, f = q + 1 := ⟨f - 1, by omega⟩
    obtain ⟨y, S1, e1, f1, a1, t1, b1⟩ := ref_failsWith (O := O) (n := n) (w := w) h hn hE hX hM hR' hQ (fun c => tau_01) hw hF hfa hT
    rcases b1 with ⟨hy, hno⟩ | ⟨e, he16, hy, ⟨v, hv1, hv2⟩, hmin⟩
    · have noW : ∀ e', ¬ FT r S0 A nw na nt I iv sn c1 c2 t w e' := fun e' ⟨v, q1, q2⟩ => hno v e' q1 q2
      have e105 : G_XModel_ask_105 O n rec31 (f + 1) r kv (nI t) 1 S = yC (G_XModel_goesOn O n r (nI 0) (nI nw) S1) (fun v8 S7 => G_XModel_ask_105 O n rec31 f r kv (nI t) v8 S7) := by
        rw [G_XModel_ask_105, if_neg (by decide), rk h, e1, yC_some, hy, if_pos (by decide), rI h (by decide), f1.2 23 (by omega), r23, rk h, nI_0]
      rw [e105]
      rcases ref_goesOn (O := O) (n := n) (from' := 0) (to' := nw) h (by omega) (by omega) (by omega) a1 hw with ⟨g1, g2⟩ | ⟨k, S2, k1, k2, k3, k4, g1, g2, g3, g4⟩
      · right
        rw [g1, yC_some]
        obtain ⟨f', rfl⟩ : ∃ q, f = q + 1 := by
          refine ⟨f - 1, ?_⟩
          have h8 := N8_lt (u := w) (n := nw) (fun i hi => by have := rg_le hw hi; omega)
          have : 8 ^ nw ≤ 8 ^ 7 := Nat.pow_le_pow_right (by decide) (by omega)
          omega
        refine ⟨S1, ?_, f1, fun w' hw' e' hf' => ?_⟩
        · rw [G_XModel_ask_105, if_pos rfl, hB_eq, nI_1]
        · rcases lex_tri w' w nw with q | q | q
          · obtain ⟨v, ⟨q1, q2⟩, q3⟩ := hf'
            exact noW e' ⟨v, ⟨q1, fun i hi => by rw [q2 i hi, q i hi]⟩, q3⟩
          · exact hbw w' hw' q e' hf'
          · exact nxt_last g2 hw' (fun i hi => absurd hi (Nat.not_lt_zero i)) q
      · rw [g1, yC_some]
        have hw2 : rgP tt1 (nxt w k) nw := nxt_rg hw k3
        have hlt := N8_lex (u := w) (v := nxt w k) (n := nw) (fun i hi => by have := rg_le hw hi; omega) (fun i hi => by have := rg_le hw2 hi; omega) (nxt_lt k2)
        refine ih f (nxt w k) S2 (by omega) (by omega) hw2 ⟨f1.1.trans g2.1, fun j hj => by rw [g2.2 j (fun q => hj (Or.inr q)), f1.2 j hj]⟩ g3 (fun m hm hd' hk => ?_) (fun w' hw' hl e' hf' => ?_)
        · rw [g2.2 22 (by unfold J27; omega)]; exact t1 m hm hd' hk
        · rcases lex_tri w' w nw with q | q | q
          · obtain ⟨v, ⟨q1, q2⟩, q3⟩ := hf'
            exact noW e' ⟨v, ⟨q1, fun i hi => by rw [q2 i hi, q i hi]⟩, q3⟩
          · exact hbw w' hw' q e' hf'
          · exact nxt_first k1 k4 hw' (fun i hi => absurd hi (Nat.not_lt_zero i)) q hl
    · left
      obtain ⟨S2, e2, z1, z2, z3, z4, z5, z6⟩ := ref_keepState (O := O) (n := n) (l1 := nI e) (w := w) h (by omega) hE hX hQ.1 hR' hEL f1 a1 t1
      refine ⟨S2, ?_, t, w, e, ht, hw, he16, ⟨v, hv1, hv2⟩, fun e' he' ⟨v', q1, q2⟩ => hmin v' e' q1 he' q2, fun t' w' hw' hc e' hf' => ?_, z1, z2, z3, z4, z5, z6⟩
      · rw [G_XModel_ask_105, if_neg (by decide), rk h, e1, yC_some, hy, if_neg (nI_pos (by omega)), rk h, e2, yV_some]
      · rcases hc with q | ⟨q, q'⟩
        · exact hbefore t' w' hw' q e' hf'
        · subst q
          exact hbw w' hw' q' e' hf'
theorem ref_ask_31 (h : Ref O r) (hn : 3000000 ≤ n) (hE : E ≤ 16) (hX : Ext r S0 E A) (hM : MClo r A S0) (hR : RL r A nw na nt S0) (hQ : RQ r E A S0 kv I iv sn c1 c2) (hEL : EL r E A S0) :
    ∀ (d t f : Nat) (S : qS), t + d = 2 ^ nt → d < f → rFr r S0 S Jv → (∀ t' w', rgP tt1 w' nw → t' < t → ∀ e', ¬ FT r S0 A nw na nt I iv sn c1 c2 t' w' e') →
      (∃ S', G_XModel_ask_31 O n f r kv (nI t) S = some (0, S') ∧ Kept0 r S0 E A nw na nt I iv sn c1 c2 S') ∨
      (∃ S', G_XModel_ask_31 O n f r kv (nI t) S = some (1, S') ∧ rFr r S0 S' Jv ∧ ∀ t' w', t' < 2 ^ nt → rgP tt1 w' nw → ∀ e', ¬ FT r S0 A nw na nt I iv sn c1 c2 t' w' e') := by
  have hR' := hR
  obtain ⟨r23, r24, r25, r7, r6, rW, rWa, rWo, rT, rTa, rTo, rWi⟩ := hR
  have h64 : 2 ^ nt ≤ 64 := Nat.le_trans (Nat.pow_le_pow_right (by decide) r6) (by decide)
  intro d
  induction d with
  | zero =>
    intro t f S e hf hF hb
    obtain ⟨f, rfl⟩ : ∃ q, f = q + 1 := ⟨f - 1, by omega⟩
    right
    refine ⟨S, ?_, hF, fun t' w' ht' hw' => hb t' w' hw' (by omega)⟩
    rw [G_XModel_ask_31, rI h (by decide), hF.2 25 (by omega), r25, shl_at nt (by omega), if_pos (nI_le (by omega) (by omega))]
  | succ d ih =>
    intro t f S e hf hF hb
    obtain ⟨f, rfl⟩ : ∃ q, f = q + 1 := ⟨f - 1, by omega⟩
    have ht : t < 2 ^ nt := by omega
    obtain ⟨S1, f1, v1, e1⟩ := ref_ask_43 (O := O) (n := n) (kv := kv) h hE hX hR' ht (G_XModel_ask_31 O n f) nt 0 n S (by omega) (by omega) hF (fun i m hi => absurd hi (Nat.not_lt_zero i))
    obtain ⟨S2, f2, v2, a2, e2⟩ := ref_ask_82 (O := O) (n := n) (kv := kv) (l2 := nI t) h hR' (G_XModel_ask_31 O n f) nw 0 n S1 (by omega) (by omega) f1 (fun i hi => absurd hi (Nat.not_lt_zero i))
    rw [nI_0] at e1 e2
    have e31 : G_XModel_ask_31 O n (f + 1) r kv (nI t) S = G_XModel_ask_105 O n (G_XModel_ask_31 O n f) n r kv (nI t) 1 S2 := by
      rw [G_XModel_ask_31, rI h (by decide), hF.2 25 (by omega), r25, shl_at nt (by omega), if_neg (nI_ge (by omega) (by omega)), e1, e2]
    rw [e31]
    have hz : rgP tt1 (fun _ => 0) nw := fun i hi _ => Nat.zero_le _
    rcases ref_ask_105 (O := O) (n := n) h hn hE hX hM hR' hQ hEL ht hb (G_XModel_ask_31 O n f) (8 ^ 7) n (fun _ => 0) S2 (by omega) (by omega) hz f2 (fun i hi => by rw [a2 i hi]; rfl) (fun m hm hd hk => by rw [v2]; exact v1 m hm hd hk) (fun w' hw' hl => by
      obtain ⟨i, hi, he, hl'⟩ := hl
      exact absurd hl' (Nat.not_lt_zero _)) with ⟨S', q1, q2⟩ | ⟨S', q1, q2, q3⟩
    · exact Or.inl ⟨S', q1, q2⟩
    · rw [q1]
      refine ih (t + 1) f S' (by omega) (by omega) q2 (fun t' w' hw' hlt => ?_)
      by_cases z : t' = t
      · rw [z]; exact q3 w' hw'
      · exact hb t' w' hw' (by omega)
end ASK
