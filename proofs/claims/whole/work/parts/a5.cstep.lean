/-! THE CLASS'S OBJECTS -/
/-- the objects: x itself, core c, outcome u, prover p, face f, work store w, question q, search s, planes l -/
def ClO (O : qOb9) (x c u p f w q s l : Nat) : Prop :=
  (oC O x = 2 ∧ oC O c = 3 ∧ oC O u = 5 ∧ oC O p = 7 ∧ oC O q = 8 ∧ oC O s = 9 ∧ oC O l = 6) ∧
  (oR O x 0 = c ∧ oR O x 1 = u ∧ oR O x 2 = p ∧ oR O c 0 = f ∧ oR O p 0 = w ∧ oR O p 1 = q ∧ oR O p 2 = s ∧ oR O s 0 = w ∧ oR O s 1 = q ∧ oR O s 2 = l ∧ oR O l 0 = w) ∧
  (NdO O f 300 256 ∧ NdO O w 5732 2048 ∧ f ≠ w) ∧
  (oN O c 1 = 16 ∧ oN O c 2 = 16 ∧ oN O c 3 = 16 ∧ oN O c 4 = 8 ∧ oN O c 5 = 300 ∧ oN O u 0 = 16) ∧
  (oN O p 3 = 5732 ∧ oN O p 4 = 300 ∧ oN O p 5 = 16 ∧ oN O p 6 = 16) ∧ (oN O q 0 = 8 ∧ oN O q 1 = 16 ∧ oN O q 2 = 16) ∧
  (oN O s 3 = 6 ∧ oN O s 4 = 7 ∧ oN O s 5 = 7 ∧ oN O s 6 = 5732 ∧ oN O s 7 = 5732 ∧ oN O s 8 = 9 ∧ oN O s 9 = 7) ∧ (oN O l 1 = 5732 ∧ oN O l 2 = 5732 ∧ oN O l 3 = 5732)
/-- the core: E elements, N nodes of the face, I invariants -/
def CoI (O : qOb9) (c f E N I : Nat) (S : qS) (eS : Nat → Bool) : Prop :=
  CS O f 300 256 S E N ∧ E ≤ 16 ∧ S.1 c 6 0 = nI E ∧
  (∀ e, e < E → ∃ m, m < N ∧ S.1 c 1 e = nI m ∧ (S.1 f 0 m = 3 ∨ S.1 f 0 m = 4) ∧ S.1 f 1 m = nI e ∧ (S.1 f 0 m = 3 ↔ eS e = true)) ∧
  (∀ m, m < N → S.1 f 0 m = 3 ∨ S.1 f 0 m = 4 → ∃ e, e < E ∧ S.1 f 1 m = nI e ∧ S.1 c 1 e = nI m) ∧
  (∀ e, e < E → S.1 c 2 e = -1 ∨ ∃ m, m < N ∧ S.1 c 2 e = nI m ∧ cWd S f m = eS e) ∧
  (∀ e, e < E → S.1 c 3 e = -1 ∨ ∃ m, m < N ∧ S.1 c 3 e = nI m ∧ cWd S f m = eS e ∧ hf (S.1 f 0) (S.1 f 1) (S.1 f 2) (S.1 f 3) m = false) ∧
  S.1 c 8 0 = nI I ∧ I ≤ 8 ∧ (∀ k, k < I → ∃ m, m < N ∧ S.1 c 4 k = nI m ∧ cWd S f m = false ∧ hf (S.1 f 0) (S.1 f 1) (S.1 f 2) (S.1 f 3) m = false)
section CSTEP
variable {O : qOb9} {x c u p f w q s l n E N I : Nat} {S : qS} {eS : Nat → Bool}
theorem oC_ne {a b : Nat} (h : oC O a ≠ oC O b) : a ≠ b := fun e => h (by rw [e])
/-- the objects are different ones -/
theorem ClO_ne (h : ClO O x c u p f w q s l) : (c ≠ p ∧ c ≠ w ∧ c ≠ f ∧ c ≠ q ∧ c ≠ s ∧ c ≠ l ∧ c ≠ u) ∧ (p ≠ w ∧ p ≠ f ∧ p ≠ q ∧ p ≠ s ∧ p ≠ l ∧ p ≠ u) ∧ (w ≠ q ∧ w ≠ s ∧ w ≠ l ∧ w ≠ u ∧ w ≠ f) ∧ (f ≠ q ∧ f ≠ s ∧ f ≠ l ∧ f ≠ u) ∧ (q ≠ s ∧ q ≠ l ∧ q ≠ u) ∧ (s ≠ l ∧ s ≠ u ∧ l ≠ u) := by
  obtain ⟨⟨h1, h2, h3, h4, h5, h6, h7⟩, _, ⟨n1, n2, n3⟩, _⟩ := h
  have f1 := n1.1
  have w1 := n2.1
  refine ⟨⟨?_, ?_, ?_, ?_, ?_, ?_, ?_⟩, ⟨?_, ?_, ?_, ?_, ?_, ?_⟩, ⟨?_, ?_, ?_, ?_, fun e => n3 e.symm⟩, ⟨?_, ?_, ?_, ?_⟩, ⟨?_, ?_, ?_⟩, ?_, ?_, ?_⟩ <;> apply oC_ne (O := O) <;> omega
/-- CoI looks at core and face alone -/
theorem CoI_same {S' : qS} (hI : CoI O c f E N I S eS) (h1 : S'.1 c = S.1 c) (h2 : S'.1 f = S.1 f) : CoI O c f E N I S' eS := by
  unfold CoI CS cWd at hI ⊢
  rw [h1, h2]
  exact hI
/-- a way's state: nodes of the elements' sorts, by code -/
def StC (S : qS) (w p j E M : Nat) (st : Nat → Nat) (eS : Nat → Bool) : Prop := ∀ e, e < E → ∃ v, v < M ∧ S.1 p j e = nI v ∧ cCd S w v = st e ∧ cWd S w v = eS e
/-- between steps: the work store has M nodes, elements first -/
def WkI (O : qOb9) (w : Nat) (S : qS) (E M M0 : Nat) : Prop := CS O w 5732 2048 S E M ∧ M0 ≤ M ∧ ∀ m, M0 ≤ m → m < M → ¬ S.1 w 0 m ≤ 4
theorem cls_putIn (hO : ClO O x c u p f w q s l) (hn : 7000 ≤ n) (hI : CoI O c f E N I S eS) {M : Nat} (hW : CS O w 5732 2048 S E M) {j : Nat} (hj : j = 5 ∨ j = 6) {st : Nat → Nat} (hst : StC S w p j E M st eS) {k : Nat} (hk : k < 3) :
    ∃ S', G_XProver_putIn O n p c (p, j) (nI k) S = some ((), S') ∧ onl (fun o => o = p) S S' ∧ (∀ i, i ≠ 4 → S'.1 p i = S.1 p i) ∧ RmI O w f p E N M S' st (pr k 0) S' M 0 := by
  have hO' := hO
  obtain ⟨⟨h1, h2, h3, h4, h5, h6, h7⟩, _, ⟨n1, n2, n3⟩, ⟨l1, l2, l3, l4, l5, l6⟩, ⟨p3, p4, p5, p6⟩, _⟩ := hO
  have NE := fun _ : Unit => ClO_ne hO'
  obtain ⟨cF', hE, e6, i1, i2, i3, i4, i5, i6, i7⟩ := hI
  obtain ⟨hM31, hM3⟩ := CS_big hW
  obtain ⟨hN31, hN3⟩ := CS_big cF'
  have hN300 := cF'.2.2.1
  have lj : oN O p j = 16 := by rcases hj with q | q <;> rw [q]; exact p5; exact p6
  have qj : Unit → qKd 6 j = 0 := fun _ => by rcases hj with q | q <;> rw [q] <;> decide
  have hj4 : j ≠ 4 := by omega
  -- the loop over elements
  have loop : ∀ (d e fu : Nat) (T : qS), e + d = E → d < fu → onl (fun o => o = p) S T → (∀ i, i ≠ 4 → T.1 p i = S.1 p i) → ∃ T', G_XProver_putIn_24 O n fu p c (p, j) (nI e) T = some ((), T') ∧ onl (fun o => o = p) S T' ∧ (∀ i, i ≠ 4 → T'.1 p i = S.1 p i) ∧ (∀ a m, e ≤ a → a < E → m < N → S.1 c 1 a = nI m → T'.1 p 4 m = S.1 p j a) ∧ (∀ m, (∀ a, e ≤ a → a < E → ¬ S.1 c 1 a = nI m) → T'.1 p 4 m = T.1 p 4 m) := by
    intro d
    induction d with
    | zero =>
      intro e fu T ee hf hT hT2
      obtain ⟨fu, rfl⟩ : ∃ q, fu = q + 1 := ⟨fu - 1, by omega⟩
      have ec : T.1 c = S.1 c := (hT c (NE ()).1.1).1
      rw [G_XProver_putIn_24, uI (ci := 2) h2 (by decide), ec, e6, if_pos (nI_le (by omega) (by omega))]
      exact ⟨T, rfl, hT, hT2, fun a m h1 h2 => by omega, fun _ _ => rfl⟩
    | succ d ih =>
      intro e fu T ee hf hT hT2
      obtain ⟨fu, rfl⟩ : ∃ q, fu = q + 1 := ⟨fu - 1, by omega⟩
      have ec : T.1 c = S.1 c := (hT c (NE ()).1.1).1
      obtain ⟨m, hm, em, _⟩ := i1 e (by omega)
      have e1 : e < oN O c 1 := by rw [l1]; omega
      have ej : e < oN O p j := by rw [lj]; omega
      have m4 : m < oN O p 4 := by rw [p4]; omega
      have uq : ∀ a, a < E → S.1 c 1 a = nI m → a = e := fun a ha ea => by
        obtain ⟨m', hm', em', _, am', _⟩ := i1 a ha
        have := (nI_eq (by omega) (by omega)).mp (ea.symm.trans em')
        subst this
        obtain ⟨m2, hm2, em2, _, am2, _⟩ := i1 e (by omega)
        have := (nI_eq (by omega) (by omega)).mp (em.symm.trans em2)
        subst this
        exact (nI_eq (by omega) (by omega)).mp (am'.symm.trans am2)
      rw [G_XProver_putIn_24, uI (ci := 2) h2 (by decide), ec, e6, if_neg (nI_ge (by omega) (by omega)), uA (ci := 6) h4 (by decide), uA (ci := 2) h2 (by decide), ul (ci := 2) h2 (by decide) e1 (by omega), ec, em, ul (ci := 6) h4 (qj ()) ej (by omega), hT2 j hj4, uw (ci := 6) h4 (by decide) m4 (by omega), hB_eq, nI_1]
      obtain ⟨T', t1, t2, t3, t4, t5⟩ := ih (e + 1) fu (up3 T.1 p 4 m (S.1 p j e), T.2) (by omega) (by omega) (hT.trans (onl.up rfl)) (fun i hi => by rw [up3_f hi]; exact hT2 i hi)
      refine ⟨T', t1, t2, t3, fun a m' h1 h2 hm' ea => ?_, fun m' hm' => ?_⟩
      · by_cases z : a = e
        · subst z
          have := (nI_eq (by omega) (by omega)).mp (em.symm.trans ea)
          subst this
          rw [t5 m (fun b h1 h2 hb => by have := uq b h2 hb; omega), up3_v]
        · exact t4 a m' (by omega) h2 hm' ea
      · rw [t5 m' (fun b h1 h2 => hm' b (by omega) h2)]
        have : m' ≠ m := fun e' => hm' e (Nat.le_refl e) (by omega) (by rw [e']; exact em)
        rw [up3_o this]
  have z0 : (0 : Nat) < oN O p 4 := by rw [p4]; omega
  have z1 : (1 : Nat) < oN O p 4 := by rw [p4]; omega
  have z2 : (2 : Nat) < oN O p 4 := by rw [p4]; omega
  have w0 : ∀ (T : qS) (v : Int32) (kk : qS → Option (Unit × qS)), hw 0 O T (p, 4) 0 v kk = kk (up3 T.1 p 4 0 v, T.2) := fun T v kk => uw (ci := 6) (m := 0) h4 (by decide) z0 (by omega)
  have w1 : ∀ (T : qS) (v : Int32) (kk : qS → Option (Unit × qS)), hw 0 O T (p, 4) 1 v kk = kk (up3 T.1 p 4 1 v, T.2) := fun T v kk => uw (ci := 6) (m := 1) h4 (by decide) z1 (by omega)
  have w2 : ∀ (T : qS) (v : Int32) (kk : qS → Option (Unit × qS)), hw 0 O T (p, 4) 2 v kk = kk (up3 T.1 p 4 2 v, T.2) := fun T v kk => uw (ci := 6) (m := 2) h4 (by decide) z2 (by omega)
  unfold G_XProver_putIn
  rw [uA (ci := 6) h4 (by decide), w0, uA (ci := 6) h4 (by decide), w1, uA (ci := 6) h4 (by decide), w2]
  have q0 : onl (fun o => o = p) S (up3 (up3 (up3 S.1 p 4 0 0, S.2).1 p 4 1 1, (up3 S.1 p 4 0 0, S.2).2).1 p 4 2 (nI k), (up3 (up3 S.1 p 4 0 0, S.2).1 p 4 1 1, (up3 S.1 p 4 0 0, S.2).2).2) := (onl.up (Z := fun o => o = p) rfl).trans ((onl.up (Z := fun o => o = p) rfl).trans (onl.up (Z := fun o => o = p) rfl))
  have q1 : ∀ i, i ≠ 4 → ((up3 (up3 (up3 S.1 p 4 0 0, S.2).1 p 4 1 1, (up3 S.1 p 4 0 0, S.2).2).1 p 4 2 (nI k), (up3 (up3 S.1 p 4 0 0, S.2).1 p 4 1 1, (up3 S.1 p 4 0 0, S.2).2).2) : qS).1 p i = S.1 p i := fun i hi => by rw [up3_f hi, up3_f hi, up3_f hi]
  have v0 : ((up3 (up3 (up3 S.1 p 4 0 0, S.2).1 p 4 1 1, (up3 S.1 p 4 0 0, S.2).2).1 p 4 2 (nI k), (up3 (up3 S.1 p 4 0 0, S.2).1 p 4 1 1, (up3 S.1 p 4 0 0, S.2).2).2) : qS).1 p 4 0 = nI 0 := by rw [up3_o (by decide), up3_o (by decide), up3_v]; rfl
  have v1 : ((up3 (up3 (up3 S.1 p 4 0 0, S.2).1 p 4 1 1, (up3 S.1 p 4 0 0, S.2).2).1 p 4 2 (nI k), (up3 (up3 S.1 p 4 0 0, S.2).1 p 4 1 1, (up3 S.1 p 4 0 0, S.2).2).2) : qS).1 p 4 1 = nI 1 := by rw [up3_o (by decide), up3_v]; rfl
  have v2 : ((up3 (up3 (up3 S.1 p 4 0 0, S.2).1 p 4 1 1, (up3 S.1 p 4 0 0, S.2).2).1 p 4 2 (nI k), (up3 (up3 S.1 p 4 0 0, S.2).1 p 4 1 1, (up3 S.1 p 4 0 0, S.2).2).2) : qS).1 p 4 2 = nI k := up3_v
  generalize ((up3 (up3 (up3 S.1 p 4 0 0, S.2).1 p 4 1 1, (up3 S.1 p 4 0 0, S.2).2).1 p 4 2 (nI k), (up3 (up3 S.1 p 4 0 0, S.2).1 p 4 1 1, (up3 S.1 p 4 0 0, S.2).2).2) : qS) = T at q0 q1 v0 v1 v2 ⊢
  obtain ⟨T', t1, t2, t3, t4, t5⟩ := loop E 0 n T (by omega) (by omega) q0 q1
  rw [nI_0] at t1
  refine ⟨T', t1, t2, t3, ?_⟩
  have tw : T'.1 w = S.1 w := (t2 w (fun e => (NE ()).2.1.1 e.symm)).1
  have tf : T'.1 f = S.1 f := (t2 f (fun e => (NE ()).2.1.2.1 e.symm)).1
  have csw : CS O w 5732 2048 T' E M := by unfold CS at hW ⊢; rw [tw]; exact hW
  have ccd : ∀ v, cCd T' w v = cCd S w v := fun v => by unfold cCd; rw [tw]
  have cwd : ∀ v, cWd T' w v = cWd S w v := fun v => by unfold cWd; rw [tw]
  have noEl : ∀ m, m < 3 → ∀ a, 0 ≤ a → a < E → ¬ S.1 c 1 a = nI m := fun m hm a _ ha ea => by
    obtain ⟨m', hm', em', hk', _, _⟩ := i1 a ha
    have := (nI_eq (by omega) (by omega)).mp (ea.symm.trans em')
    subst this
    rcases cF'.2.2.2.1.2.1 m hm' with ⟨_, z, _⟩ | ⟨z, _⟩
    · rw [z] at hk'
      rcases hk' with q | q
      · have := (nI_eq (a := m) (b := 3) (by omega) (by decide)).mp q; omega
      · have := (nI_eq (a := m) (b := 4) (by omega) (by decide)).mp q; omega
    · omega
  have cw0 := cd_0 hW.2.2.2.1 hM31 hE
  have low : ∀ m, m < 3 → cCd S w m = pr m 0 ∧ cWd S w m = false := fun m hm => by
    have e : cCd S w m = pr m 0 := by
      rcases (show m = 0 ∨ m = 1 ∨ m = 2 by omega) with q | q | q <;> subst q
      · exact cw0.1
      · exact cw0.2.1
      · exact cw0.2.2
    refine ⟨e, ?_⟩
    have := cd_wc hW.2.2.2.1.2.1 hM31 hE m (by omega)
    rw [show cd _ _ _ _ m = pr m 0 from e, wc_pr (by omega), decide_eq_false (by omega), decide_eq_false (by omega)] at this
    exact this.symm
  refine ⟨csw, ⟨Nat.le_refl M, by omega, fun m h1 h2 => by omega⟩, onl.refl, fun _ _ => rfl, fun _ _ _ _ => rfl, fun m hm hc => ?_⟩
  have hk4 : S.1 f 0 m ≤ 4 := by rw [← tf]; exact hc.resolve_left (Nat.not_lt_zero m)
  rcases cd_row cF'.2.2.2.1.2.1 hN31 hE hm with ⟨h0, k0, ea, ec⟩ | ⟨h0, a, ha, k0, ea, ec⟩ | ⟨h0, a, ha, k0, ea, ec⟩ | ⟨_, _, _, _, _, k0, _⟩ | ⟨_, _, _, _, _, _, _, k0, _⟩ | ⟨_, _, _, _, _, k0, _⟩ | ⟨_, _, _, _, k0, _⟩ | ⟨_, _, _, _, _, _, k0, _⟩ | ⟨_, _, _, _, _, _, _, _, _, k0, _⟩
  · have wfm : cWd T' f m = false := by
      unfold cWd
      rw [tf, wd_n9 (by rw [k0]; exact fun q => by have := (nI_eq (a := m) (b := 9) (by omega) (by decide)).mp q; omega), k0]
      rcases (show m = 0 ∨ m = 1 ∨ m = 2 by omega) with q | q | q <;> subst q <;> rfl
    by_cases m2 : m = 2
    · subst m2
      refine ⟨k, by omega, by rw [t5 2 (noEl 2 (by omega))]; exact v2, ?_, ?_⟩
      · rw [ccd, (low k hk).1]
        unfold fSb
        rw [tf, sb_2 (by rw [k0]; rfl)]
      · rw [cwd, (low k hk).2, wfm]
    · refine ⟨m, by omega, ?_, ?_, ?_⟩
      · rw [t5 m (noEl m h0)]
        rcases (show m = 0 ∨ m = 1 by omega) with q | q <;> subst q
        · exact v0
        · exact v1
      · rw [ccd, (low m h0).1]
        unfold fSb
        rw [tf, sb_c (by omega) k0]
      · rw [cwd, (low m h0).2, wfm]
  · obtain ⟨e, he, ae, me⟩ := i2 m hm (Or.inl k0)
    obtain ⟨v, hv, ev, cv, wv⟩ := hst e he
    have hae := (nI_eq (by omega) (by omega)).mp (ea.symm.trans ae)
    subst hae
    obtain ⟨m2, hm2, em2, _, _, ws⟩ := i1 a he
    have := (nI_eq (by omega) (by omega)).mp (me.symm.trans em2)
    subst this
    refine ⟨v, hv, by rw [t4 a m (by omega) he hm me]; exact ev, ?_, ?_⟩
    · rw [ccd, cv]
      unfold fSb
      rw [tf, sb_e (by omega) (Or.inl k0) ea]
    · rw [cwd, wv]
      unfold cWd
      rw [tf, wd_n9 (by rw [k0]; decide), k0, ws.mp k0]
      rfl
  · obtain ⟨e, he, ae, me⟩ := i2 m hm (Or.inr k0)
    obtain ⟨v, hv, ev, cv, wv⟩ := hst e he
    have hae := (nI_eq (by omega) (by omega)).mp (ea.symm.trans ae)
    subst hae
    obtain ⟨m2, hm2, em2, _, _, ws⟩ := i1 a he
    have := (nI_eq (by omega) (by omega)).mp (me.symm.trans em2)
    subst this
    refine ⟨v, hv, by rw [t4 a m (by omega) he hm me]; exact ev, ?_, ?_⟩
    · rw [ccd, cv]
      unfold fSb
      rw [tf, sb_e (by omega) (Or.inr k0) ea]
    · rw [cwd, wv]
      unfold cWd
      rw [tf, wd_n9 (by rw [k0]; decide), k0]
      cases z : eS a with
      | false => rfl
      | true =>
        have := ws.mpr z
        rw [k0] at this
        exact absurd this (by decide)
  all_goals
    rw [k0] at hk4
    exact absurd hk4 (by decide)
end CSTEP
