section RSEM2
variable {O : qOb9} {r n E A I nw na nt : Nat} {S0 : qS} {kv : Int32} {iv c1 c2 : Nat → Nat} {sn : Nat → Bool}
/-- a question looks at truths and at whether words are the same -/
theorem RQ_tr (hE : E ≤ 16) (hX : Ext r S0 E A) (hQ : RQ r E A S0 kv I iv sn c1 c2) {v v' : Nat → Nat} (hT : v cT = v' cT) (ht : ∀ c, DC r A S0 c → wc c = false → v c = v' c) (hw : ∀ c d, DC r A S0 c → DC r A S0 d → wc c = true → wc d = true → (v c = v d ↔ v' c = v' d)) {e : Nat} (h : FailsV I iv sn c1 c2 v e) : FailsV I iv sn c1 c2 v' e := by
  have hA := hX.2.1
  have rOk := hX.2.2.1.2.1
  obtain ⟨h9, h10, hI8, hinv, hcl⟩ := hQ
  obtain ⟨f1, f2, f3⟩ := h
  refine ⟨fun k hk => ?_, f2, ?_⟩
  · obtain ⟨m, hm, em, dm, cm, wm⟩ := hinv k hk
    rw [← ht (iv k) ⟨m, hm, dm, cm⟩ (by rw [← cm, cd_wc rOk (by omega) hE m hm]; exact wm)]
    exact f1 k hk
  · rcases hcl with ⟨ek, hsn, hc⟩ | ⟨m, hm, ek, dm, k1, wm, k2, hsn⟩
    · obtain ⟨m, m', hm, hm', em, em', dm, dm', e1, e2, we⟩ := hc e f2
      have w1 : wc (c1 e) = wd (S0.1 r 3) (S0.1 r 5) m := by rw [← e1]; exact cd_wc rOk (by omega) hE m hm
      have w2 : wc (c2 e) = wd (S0.1 r 3) (S0.1 r 5) m := by rw [← e2, we]; exact cd_wc rOk (by omega) hE m' hm'
      cases q : wd (S0.1 r 3) (S0.1 r 5) m with
      | true =>
        rw [q] at w1 w2
        exact fun z => f3 ((hw _ _ ⟨m, hm, dm, e1⟩ ⟨m', hm', dm', e2⟩ w1 w2).mpr z)
      | false =>
        rw [q] at w1 w2
        rw [← ht _ ⟨m, hm, dm, e1⟩ w1, ← ht _ ⟨m', hm', dm', e2⟩ w2]
        exact f3
    · have := (hsn e).mp f2
      subst this
      rw [k2, ← hT, ← ht (c1 16) ⟨m, hm, dm, k1⟩ (by rw [← k1, cd_wc rOk (by omega) hE m hm]; exact wm), ← k2]
      exact f3
theorem FT_sem (hE : E ≤ 16) (hX : Ext r S0 E A) (hM : MClo r A S0) (hR : RL r A nw na nt S0) (hO : ElO r A S0) (hQ : RQ r E A S0 kv I iv sn c1 c2) {t : Nat} {w : Nat → Nat} (hw : rgP tt1 w nw) {e : Nat} :
    FT r S0 A nw na nt I iv sn c1 c2 t w e ↔ ∃ F, FailsV I iv sn c1 c2 (ivl (zs (stt (PD (DC r A S0)) nt t w)) F) e := by
  have hA := hX.2.1
  have hclo := DC_clo hX hE hM
  have hok := DC_ok hX hE
  have hpl := DC_pl hE hX
  obtain ⟨p1', p2', p3', p4', p5'⟩ := RL_pl hE hX hR hO
  -- the state's values at D's leaves
  have sT : ∀ c, DC r A S0 c → p1 c = 2 ∨ p1 c = 4 → zs (stt (PD (DC r A S0)) nt t w) c = tau r S0 nt t c := by
    intro c hc hk
    obtain ⟨i, hi, rfl⟩ := hpl.2.2 c hc (by omega) (by omega)
    have hP := PD_iff.mpr ⟨hi, hc⟩
    have h17 : i < 17 := Nat.lt_of_not_le fun q => by have := (zc_k hi).2 q; omega
    rw [zs_zc, p3' t i (tP_iff.mpr ⟨h17, hP⟩)]
    unfold stt
    rw [if_pos hP, if_pos h17]
  have sW : ∀ k, k < nw → zs (stt (PD (DC r A S0)) nt t w) (wlc r S0 k) = w k := by
    intro k hk
    obtain ⟨i, hi, hp, ez, ec⟩ := p5' k hk
    obtain ⟨h17, hP⟩ := wP_iff.mp hp
    rw [← ez, zs_zc]
    unfold stt
    rw [if_pos hP, if_neg (by omega), ec]
  have wlD : ∀ k, k < nw + na → DC r A S0 (wlc r S0 k) ∧ (p1 (wlc r S0 k) = 3 ∨ p1 (wlc r S0 k) = 5) := by
    intro k hk
    obtain ⟨m, hm, em, dm, _⟩ := hR.2.2.2.2.2.1 k hk
    have t1 : tN (S0.1 r 26 k) = m := by rw [em]; exact nI_clamp (by omega)
    obtain ⟨_, q3, q5⟩ := LU_w (τ := fun _ => 0) (u := fun _ => 0) hE hX hR hk
    refine ⟨⟨m, hm, dm, by unfold wlc; rw [t1]⟩, ?_⟩
    by_cases z : k < nw
    · exact Or.inl (q3 z)
    · exact Or.inr (q5 (by omega))
  have wlA : ∀ c, DC r A S0 c → p1 c = 3 ∨ p1 c = 5 → ∃ k, k < nw + na ∧ wlc r S0 k = c := by
    rintro c ⟨m, hm, dm, em⟩ hk
    have kk := (cd_kind hX.2.2.1.2.1 (by omega) hE hm).1
    have : ∃ k, k < nw + na ∧ S0.1 r 26 k = nI m := by
      rcases hk with q | q
      · obtain ⟨k, hk, ek⟩ := (hR.2.2.2.2.2.2.1 m hm dm).1 (by rw [kk, show cd _ _ _ _ m = c from em, q]; rfl)
        exact ⟨k, by omega, ek⟩
      · obtain ⟨k, _, hk, ek⟩ := (hR.2.2.2.2.2.2.1 m hm dm).2 (by rw [kk, show cd _ _ _ _ m = c from em, q]; rfl)
        exact ⟨k, hk, ek⟩
    obtain ⟨k, hk, ek⟩ := this
    have t1 : tN (S0.1 r 26 k) = m := by rw [ek]; exact nI_clamp (by omega)
    exact ⟨k, hk, by unfold wlc; rw [t1]; exact em⟩
  constructor
  · rintro ⟨v, ⟨g1, g2⟩, hfun, hfail⟩
    obtain ⟨F, hF⟩ := Fun_ivl (s := zs (stt (PD (DC r A S0)) nt t w)) hclo (fun c hc => (hok c hc).1) hfun (fun c hc k2 k4 => by
      by_cases z : p1 c = 3
      · obtain ⟨k, hk, ek⟩ := wlA c hc (Or.inl z)
        obtain ⟨q1, q3, q5⟩ := LU_w (τ := tau r S0 nt t) (u := v) hE hX hR hk
        have hkw : k < nw := Nat.lt_of_not_le fun q => by have := q5 q; rw [ek] at this; omega
        rw [← ek, sW k hkw, q1, g2 k hkw]
      · rw [sT c hc (by omega)]
        unfold LU
        rw [if_neg (by omega)])
    exact ⟨F, RQ_tr hE hX hQ (by rw [val_T, ivl_k1 (p1_pr 1 0)]) (fun c hc _ => (hF c hc).symm) (fun c d hc hd _ _ => by rw [hF c hc, hF d hd]) hfail⟩
  · rintro ⟨F, hfail⟩
    obtain ⟨L, l1, l2, l3, l4, l5, l6⟩ := ivl_grow (s := zs (stt (PD (DC r A S0)) nt t w)) (wl := wlc r S0) (nW := nw) (K := nw + na) hclo hok (by omega) wlD wlA (fun i hi => (LU_w (τ := fun _ => 0) (u := fun _ => 0) hE hX hR (show i < nw + na by omega)).2.1 hi) (fun i hi hp => by
      show zs (stt (PD (DC r A S0)) nt t w) (wlc r S0 i) ≤ _
      rw [sW i hi, mxP_congr (v := w) (fun j hj _ => sW j (by omega))]
      exact hw i hi hp) F
    have LL : ∀ c, DC r A S0 c → 2 ≤ p1 c → p1 c ≤ 5 → LU r S0 (nw + na) (tau r S0 nt t) (fun i => L (wlc r S0 i)) c = L c := by
      intro c hc k2 k5
      by_cases z : p1 c = 3 ∨ p1 c = 5
      · obtain ⟨k, hk, ek⟩ := wlA c hc z
        rw [← ek, (LU_w (τ := tau r S0 nt t) (u := fun i => L (wlc r S0 i)) hE hX hR hk).1]
      · unfold LU
        rw [if_neg z, l2 c hc (by omega), sT c hc (by omega)]
    have vc := val_congr hclo (fun c hc => (hok c hc).1) LL
    refine ⟨fun i => L (wlc r S0 i), ⟨l3, fun i hi => (l4 i hi).trans (sW i hi)⟩, ?_, ?_⟩
    · intro c d hc hd c5 d5 e1 e2 e3
      rw [LL c hc (by omega) (by omega), LL d hd (by omega) (by omega)]
      obtain ⟨ca, cb⟩ := clo5 hclo hc c5
      obtain ⟨da, db⟩ := clo5 hclo hd d5
      rw [vc _ ca, vc _ da] at e2
      refine l1 c d hc hd c5 d5 e1 e2 ?_
      unfold arg2 at e3 ⊢
      by_cases q : q21 c = 0
      · rw [if_pos q] at e3 ⊢
        by_cases q' : q21 d = 0
        · rw [if_pos q']
        · rw [if_neg q'] at e3; omega
      · rw [if_neg q] at e3 ⊢
        by_cases q' : q21 d = 0
        · rw [if_pos q'] at e3; omega
        · rw [if_neg q'] at e3 ⊢
          rw [vc _ (cb q), vc _ (db q')] at e3
          exact e3
    · refine RQ_tr hE hX hQ (by rw [val_T, ivl_k1 (p1_pr 1 0)]) (fun c hc hwc => ?_) (fun c d hc hd wc' wd' => ?_) hfail
      · rw [vc c hc, l5 c hc hwc]
      · rw [vc c hc, vc d hd]
        exact (l6 c d hc hd wc' wd').symm
/-- Q of the reference looks at its places -/
theorem R_Qin (hE : E ≤ 16) (hX : Ext r S0 E A) (hM : MClo r A S0) (hQ : RQ r E A S0 kv I iv sn c1 c2) : Qin (PD (DC r A S0)) (QF I iv sn c1 c2) := by
  rintro s s' h1 h2 ⟨e, F, hf⟩
  obtain ⟨F', g1, g2⟩ := Q_in (DC_clo hX hE hM) (DC_ok hX hE) (DC_pl hE hX) h1 h2 F
  exact ⟨e, F', RQ_tr hE hX hQ (by rw [ivl_k1 (p1_pr 1 0), ivl_k1 (p1_pr 1 0)]) (fun c hc hw => (g1 c hc hw).symm) (fun c d hc hd w1 w2 => (g2 c d hc hd w1 w2).symm) hf⟩
/-- what the reference keeps is the least state, and the least claim there -/
theorem R_kept (hE : E ≤ 16) (hX : Ext r S0 E A) (hM : MClo r A S0) (hR : RL r A nw na nt S0) (hO : ElO r A S0) (hQ : RQ r E A S0 kv I iv sn c1 c2) (hEL : EL r E A S0) {S' : qS} (hK : Kept0 r S0 E A nw na nt I iv sn c1 c2 S') :
    ∃ s e, Lst (PD (DC r A S0)) (QF I iv sn c1 c2) s ∧ e ≤ 16 ∧ (∃ F, FailsV I iv sn c1 c2 (ivl (zs s) F) e) ∧ (∀ e', e' < e → ¬ ∃ F, FailsV I iv sn c1 c2 (ivl (zs s) F) e') ∧
      rFr r S0 S' Jk ∧ S'.1 r 31 0 = 1 ∧ (∀ a m, a < E → m < A → S0.1 r 11 a = nI m → (S0.1 r 3 m = 4 → S'.1 r 32 a = nI (s a)) ∧ (S0.1 r 3 m = 3 → S'.1 r 32 a = nI (s (17 + a)))) ∧ S'.1 r 33 0 = nI (s 16) ∧ S'.1 r 34 0 = nI e ∧ S'.1 r 35 0 = nI E := by
  have hA := hX.2.1
  have h3 := hX.2.2.1.1
  have rOk := hX.2.2.1.2.1
  obtain ⟨t, w, e, ht, hw, he, hf, hmin, hbef, k1, k2, k3, k4, k5, k6⟩ := hK
  obtain ⟨p1', p2', p3', p4', p5'⟩ := RL_pl hE hX hR hO
  have sem := fun {e : Nat} {t : Nat} {w : Nat → Nat} (hw : rgP tt1 w nw) => FT_sem (t := t) (w := w) (e := e) hE hX hM hR hO hQ hw
  refine ⟨stt (PD (DC r A S0)) nt t w, e, Lst_of p1' p2' (R_Qin hE hX hM hQ) ht hw ?_ (fun t' w' ht' hw' hc => ?_), he, (sem hw).mp hf, fun e' he' q => hmin e' he' ((sem hw).mpr q), k1, k2, fun a m ha hm em => ?_, ?_, k5, k6⟩
  · obtain ⟨F, hF⟩ := (sem hw).mp hf
    exact ⟨e, F, hF⟩
  · rintro ⟨e', F, hF⟩
    exact hbef t' w' hw' hc e' ((sem hw').mpr ⟨F, hF⟩)
  · have hk := k3 a m ha hm em
    obtain ⟨m', hm', em', hkind, ea⟩ := hEL.1 a ha
    have := (nI_eq (by omega) (by omega)).mp (em.symm.trans em')
    subst this
    unfold kpt at hk
    refine ⟨fun k4' => ?_, fun k3' => ?_⟩
    · obtain ⟨_, e2, he2, _, ea2, ec⟩ := row_4 rOk (by omega) hE hm k4'
      have := (nI_eq (by omega) (by omega)).mp (ea.symm.trans ea2)
      subst this
      have ez : zc a = rCd S0 r m := by rw [zc_U (by omega)]; exact ec.symm
      by_cases d0 : S0.1 r 21 m = 0
      · rw [if_pos d0] at hk
        rw [hk]
        have : PD (DC r A S0) a = false := by
          cases q : PD (DC r A S0) a with
          | false => rfl
          | true =>
            obtain ⟨_, m2, hm2, dm2, em2⟩ := PD_iff.mp q
            rw [ez] at em2
            rw [cd_inj hX.2.2.1 (by omega) hE m2 m hm2 hm em2] at dm2
            exact absurd d0 dm2
        unfold stt
        rw [this, if_neg (by decide)]; rfl
      · rw [if_neg d0] at hk
        have hP : PD (DC r A S0) a = true := PD_iff.mpr ⟨by omega, m, hm, d0, ez.symm⟩
        rw [hk]
        unfold LU stt
        rw [if_neg (by rw [← ez, zc_U (by omega), p1_pr]; decide), if_pos hP, if_pos (by omega), ← p3' t a (tP_iff.mpr ⟨by omega, hP⟩), ez]
    · obtain ⟨_, e2, he2, _, ea2, ec⟩ := row_3 rOk (by omega) hE hm k3'
      have := (nI_eq (by omega) (by omega)).mp (ea.symm.trans ea2)
      subst this
      have ez : zc (17 + a) = rCd S0 r m := by rw [zc_W]; exact ec.symm
      by_cases d0 : S0.1 r 21 m = 0
      · rw [if_pos d0] at hk
        rw [hk]
        have : PD (DC r A S0) (17 + a) = false := by
          cases q : PD (DC r A S0) (17 + a) with
          | false => rfl
          | true =>
            obtain ⟨_, m2, hm2, dm2, em2⟩ := PD_iff.mp q
            rw [ez] at em2
            rw [cd_inj hX.2.2.1 (by omega) hE m2 m hm2 hm em2] at dm2
            exact absurd d0 dm2
        unfold stt
        rw [this, if_neg (by decide)]; rfl
      · rw [if_neg d0] at hk
        have hP : PD (DC r A S0) (17 + a) = true := PD_iff.mpr ⟨by omega, m, hm, d0, ez.symm⟩
        obtain ⟨k, hk', ek, ec'⟩ := p4' (17 + a) (wP_iff.mpr ⟨by omega, hP⟩)
        rw [hk, ← ez, ← ek, (LU_w hE hX hR (show k < nw + na by omega)).1]
        unfold stt
        rw [if_pos hP, if_neg (by omega), ec']
  · rw [k4]
    have c2 : rCd S0 r 2 = cX := (cd_0 hX.2.2.1 (by omega) hE).2.2
    by_cases d2 : S0.1 r 21 2 = 0
    · rw [if_pos d2]
      have : PD (DC r A S0) 16 = false := by
        cases q : PD (DC r A S0) 16 with
        | false => rfl
        | true =>
          obtain ⟨_, m2, hm2, dm2, em2⟩ := PD_iff.mp q
          rw [zc_X, ← c2] at em2
          rw [cd_inj hX.2.2.1 (by omega) hE m2 2 hm2 (by omega) em2] at dm2
          exact absurd d2 dm2
      unfold stt
      rw [this, if_neg (by decide)]; rfl
    · rw [if_neg d2]
      have hP : PD (DC r A S0) 16 = true := PD_iff.mpr ⟨by omega, 2, by omega, d2, by rw [zc_X]; exact c2⟩
      unfold stt
      rw [if_pos hP, if_pos (by omega), ← p3' t 16 (tP_iff.mpr ⟨by omega, hP⟩), zc_X]
theorem R_none (hE : E ≤ 16) (hX : Ext r S0 E A) (hM : MClo r A S0) (hR : RL r A nw na nt S0) (hO : ElO r A S0) (hQ : RQ r E A S0 kv I iv sn c1 c2) (hno : ∀ t' w', t' < 2 ^ nt → rgP tt1 w' nw → ∀ e', ¬ FT r S0 A nw na nt I iv sn c1 c2 t' w' e') : ¬ ∃ s, X (PD (DC r A S0)) (QF I iv sn c1 c2) s := by
  obtain ⟨p1', p2', p3', p4', p5'⟩ := RL_pl hE hX hR hO
  refine X_noneof p1' p2' (R_Qin hE hX hM hQ) (fun t' w' ht' hw' => ?_)
  rintro ⟨e', F, hF⟩
  exact hno t' w' ht' hw' e' ((FT_sem hE hX hM hR hO hQ hw').mpr ⟨F, hF⟩)
end RSEM2
