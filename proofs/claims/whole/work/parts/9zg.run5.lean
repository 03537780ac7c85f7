section RUN5
variable {O : qOb9} {r n E N A I : Nat} {S : qS} {eS : Nat → Bool}
theorem SameF_fr {S1 S2 : qS} {J : Nat → Prop} (hf : rFr r S1 S2 J) (hJ : ∀ j, (j = 1 ∨ (3 ≤ j ∧ j ≤ 6) ∨ (9 ≤ j ∧ j ≤ 16)) → ¬ J j) : SameF r N S1 S2 := by
  have s := hf.2
  exact ⟨fun j hj => s j (hJ j (by omega)), fun m _ => ⟨by rw [s 3 (hJ 3 (by omega))], by rw [s 4 (hJ 4 (by omega))], by rw [s 5 (hJ 5 (by omega))], by rw [s 6 (hJ 6 (by omega))]⟩⟩
theorem SameF_RunI {B T : qS} {AT : Nat} (hT : RunI r E N B T AT) : SameF r N B T := ⟨fun j hj => by funext i; exact hT.2.2.2 j i (by omega) (by omega) (by omega) (by omega) (by omega) (by omega), fun m hm => RunI_rows hT m hm⟩
theorem ref_run (h : Ref O r) (hn : 3000000 ≤ n) (hI : RI r E N A I S eS) {d : Nat} (hd : d ≤ 8) :
    ∃ y S' dw dt A' fx, G_XModel_run O n r (nI d) S = some (y, S') ∧ rOnly r S S' ∧ S'.1 r 0 0 = 0 ∧ SameF r N S S' ∧ RI r E N A' I S' eS ∧ S'.1 r 29 0 = nI dw ∧ S'.1 r 30 0 = nI dt ∧ dw ≤ 6400 ∧ dt ≤ 6400 ∧ (S'.1 r 31 0 = if y = 0 then 1 else 0) ∧ (y = 0 → S'.1 r 35 0 = nI E) ∧ S'.1 r 33 0 = 1 ∧
      Outc (Dp (rts I (ivR S r) (snR S r E) (oneR S r d) (othR S r d))) (PD (Dp (rts I (ivR S r) (snR S r E) (oneR S r d) (othR S r d)))) E I (ivR S r) (snR S r E) (oneR S r d) (othR S r d) eS y dw dt (S'.1 r 32) fx (S'.1 r 34 0) := by
  have hI' := hI
  obtain ⟨⟨⟨f1, f2, f3, f4, f5⟩, g2, g3, g4, g5, g6⟩, i2, i3, i4, i5, i6, i7, i8, i9, i10, i11, i12⟩ := hI
  have h3 := f5.1
  obtain ⟨S1, e1, o1, z1, sF1, same1, R1, K1, _⟩ := ref_beginQ (O := O) (n := n) h hn hI'
  have B1ok : ∀ j, (j = 3 ∨ j = 4 ∨ j = 5 ∨ j = 6 ∨ j = 9 ∨ j = 11) → S1.1 r j = S.1 r j := fun j hj => same1 j (by omega) (by omega) (by omega) (by omega)
  obtain ⟨S2, e2, R2, _, T2⟩ := ref_bs (O := O) (n := n) h hn hI' B1ok R1
  obtain ⟨_, _, _, _, k1, k9, krow, kel, knx⟩ := K1
  have K1' : StepOk O r n E N S1 eS := ⟨h, hn, f4, f3, k1, k9, krow, kel, knx⟩
  obtain ⟨S3, A3, e3, R3, a3, a3', T3, _⟩ := ref_step (O := O) (n := n) (w := 1) h (by omega) f4 f3 k1 k9 krow kel knx R2 (by omega) T2 (by decide)
  have dN : d * N ≤ 2400 := by
    have := Nat.mul_le_mul hd f3
    omega
  obtain ⟨S4, A4, e4, R4, a4, a4', T4⟩ := ref_run_36 (O := O) (n := n) K1' hd d 0 n S3 A3 _ (by omega) (by omega) R3 (by omega) T3
  have t9 : S4.1 r 9 0 = nI E := by rw [R4.2.2.2 9 0 (by decide) (by decide) (by decide) (by decide) (by decide) (by omega)]; exact k9
  have e5 := ref_run_54 (O := O) (n := n) (S := S4) h (by omega) f4 t9 (l1 := nI d) E 0 n (S4.1 r 19) (by omega) (by omega)
  rw [setF_self, nI_0] at e5
  generalize hg : (fun i => if 0 ≤ i ∧ i < E then S4.1 r 18 i else S4.1 r 19 i) = g at e5
  have hge : ∀ e, e < E → g e = S4.1 r 18 e := fun e he => by rw [← hg]; exact if_pos ⟨Nat.zero_le e, he⟩
  have R5 : RunI r E N (setF S1 r 19 g) (setF S4 r 19 g) A4 := RunI_base R4
  have B2ok : ∀ j, (j = 3 ∨ j = 4 ∨ j = 5 ∨ j = 6 ∨ j = 9 ∨ j = 11) → (setF S1 r 19 g).1 r j = S.1 r j := fun j hj => by rw [setF_ne (by omega)]; exact B1ok j hj
  obtain ⟨S6, e6, R6, b6, T6⟩ := ref_bs (O := O) (n := n) h hn hI' B2ok R5
  have K2 : StepOk O r n E N (setF S1 r 19 g) eS := StepOk_19 K1'
  obtain ⟨S7, A7, e7, R7, a7, a7', T7, c7⟩ := ref_run_86 (O := O) (n := n) K2 hd d 0 n S6 A4 _ (by omega) (by omega) R6 (by omega) T6
  obtain ⟨_, _, _, _, kk1, kk9, kkrow, kkel, kknx⟩ := K2
  obtain ⟨S8, A8, e8, R8, a8, a8', t8, c8, w8, m8⟩ := ref_putIn (O := O) (n := n) (w := 2) h (by omega) f4 f3 kk1 kkrow kkel R7 (by omega) T7 (by decide)
  have hA8 := R8.1.2.1
  -- codes are kept from S4 on
  have c48 : ∀ m, m < A4 → rCd S8 r m = rCd S4 r m := fun m hm => by
    rw [c8 m (by omega), c7 m hm, b6]
    show cd _ _ _ _ m = cd _ _ _ _ m
    rw [setF_ne (by decide), setF_ne (by decide), setF_ne (by decide), setF_ne (by decide), setF_ne (by decide), setF_ne (by decide), setF_ne (by decide), setF_ne (by decide)]
  have sF2 : SameF r N S (setF S1 r 19 g) := sF1.trans (SameF_fr (J := fun j => j = 19) ⟨setF_only, fun j hj => setF_ne hj⟩ (by omega))
  have sF8 : SameF r N S S8 := sF2.trans (SameF_RunI R8)
  have r19 : ∀ e, S8.1 r 19 e = g e := fun e => by rw [R8.2.2.2 19 e (by decide) (by decide) (by decide) (by decide) (by decide) (by omega), setF_same]
  -- marks
  have e9 := ref_unmark (O := O) (n := n) (S := S8) h (by omega) hA8 R8.1.1
  generalize hS9 : setF S8 r 21 (fun k => if k < A8 then 0 else S8.1 r 21 k) = S9 at e9
  have fr9 : rFr r S8 S9 (fun j => j = 21) := by rw [← hS9]; exact ⟨setF_only, fun j hj => setF_ne hj⟩
  have m01 : ∀ q, S8.1 r 21 q = 0 ∨ S8.1 r 21 q = 1 := fun q => by
    rw [R8.2.2.2 21 q (by decide) (by decide) (by decide) (by decide) (by decide) (by omega), setF_ne (by decide), same1 21 (by decide) (by decide) (by decide) (by decide)]
    exact g6 q
  have MK9 : MK r A8 S9 (fun _ => False) := by
    rw [← hS9]
    refine ⟨fun q => ?_, fun m hm => ?_⟩
    · rw [setF_same]
      show (if q < A8 then (0 : Int32) else S8.1 r 21 q) = 0 ∨ (if q < A8 then (0 : Int32) else S8.1 r 21 q) = 1
      by_cases z : q < A8
      · rw [if_pos z]; exact Or.inl rfl
      · rw [if_neg z]; exact m01 q
    · rw [setF_same]
      show ¬ (if m < A8 then (0 : Int32) else S8.1 r 21 m) = 0 ↔ False
      rw [if_pos hm]
      exact ⟨fun q => q rfl, fun q => q.elim⟩
  -- one way's and the other way's nodes
  have one : ∀ e, e < E → ∃ m, m < A8 ∧ S9.1 r 19 e = nI m ∧ rCd S8 r m = oneR S r d e ∧ wd (S8.1 r 3) (S8.1 r 5) m = eS e := fun e he => by
    obtain ⟨u, hu, eu, cu, wu⟩ := T4 e he
    refine ⟨u, by omega, by rw [fr9.2 19 (by decide), r19, hge e he]; exact eu, ?_, ?_⟩
    · rw [c48 u hu, cu]
      exact itr_congr f5.2.1 f3 f4 sF1 i5 d _ _ (stp_congr f5.2.1 f3 f4 sF1 i5 (fun _ _ => rfl)) e he
    · rw [← cd_wc R8.1.2.2.1.2.1 (by omega) f4 u (by omega), show cd _ _ _ _ u = rCd S4 r u from c48 u hu]
      rw [cd_wc R4.1.2.2.1.2.1 (by have := R4.1.2.1; omega) f4 u hu]; exact wu
  have oth : ∀ e, e < E → ¬ S9.1 r 15 e = 0 → ∃ p m, p < 300 ∧ m < A8 ∧ S9.1 r 14 e = nI p ∧ S9.1 r 17 p = nI m ∧ rCd S8 r m = othR S r d e ∧ wd (S8.1 r 3) (S8.1 r 5) m = eS e := fun e he hs => by
    rw [fr9.2 15 (by decide), sF8.1 15 (by omega)] at hs
    obtain ⟨p, hp, ep, wp, _⟩ := i9 e he hs
    obtain ⟨v, hv, ev, cv, wv⟩ := m8 p hp
    have tp : tN (S.1 r 14 e) = p := by rw [ep]; exact nI_clamp (by omega)
    refine ⟨p, v, by omega, hv, by rw [fr9.2 14 (by decide), sF8.1 14 (by omega)]; exact ep, by rw [fr9.2 17 (by decide)]; exact ev, ?_, ?_⟩
    · rw [cv]
      unfold othR
      rw [tp]
      exact sb_congr f5.2.1 (by omega) f4 sF2.2 (fun a ha => itr_congr f5.2.1 f3 f4 sF2 i5 d _ _ (fun _ _ => rfl) a ha) p hp
    · rw [wv, setF_ne (by decide), setF_ne (by decide), B1ok 3 (by omega), B1ok 5 (by omega)]; exact wp
  obtain ⟨S10, e10, fr10, w10, MK10⟩ := ref_run_113 (O := O) (n := n) (N := N) h (by omega) f4 f3 hA8 (Sb := S9) (by rw [fr9.2 9 (by decide), sF8.1 9 (by omega)]; exact f2) (fun e he => by
    obtain ⟨m, hm, em, _⟩ := one e he
    exact ⟨m, hm, em⟩) (fun e he hs => by
    obtain ⟨p, m, hp, hm, ep, em, _⟩ := oth e he hs
    exact ⟨p, m, hp, hm, ep, em⟩) E 0 n S9 (by omega) (by omega) rFr.refl (fun a ha => absurd ha (Nat.not_lt_zero a)) (MK_iff MK9 (fun m hm => ⟨fun q => q.elim, fun ⟨a, ha, _⟩ => absurd ha (Nat.not_lt_zero a)⟩))
  have inv10 : ∀ k, k < I → ∃ m, m < N ∧ S10.1 r 16 k = nI m ∧ S.1 r 16 k = nI m ∧ wd (S.1 r 3) (S.1 r 5) m = false := fun k hk => by
    obtain ⟨m, hm, em, wm, _⟩ := i12 k hk
    exact ⟨m, hm, by rw [fr10.2 16 (by omega), fr9.2 16 (by decide), sF8.1 16 (by omega)]; exact em, em, wm⟩
  obtain ⟨S11, fr11, MK11, e11⟩ := ref_run_175 (O := O) (n := n) h hA8 (Sb := S10) (by rw [fr10.2 10 (by omega), fr9.2 10 (by decide), sF8.1 10 (by omega)]; exact i10) i11 (fun k hk => by
    obtain ⟨m, hm, em, _⟩ := inv10 k hk
    exact ⟨m, by omega, em⟩) (T := fun m => ∃ a, a < E ∧ ¬ S9.1 r 15 a = 0 ∧ (S9.1 r 19 a = nI m ∨ S9.1 r 17 (tN (S9.1 r 14 a)) = nI m)) I 0 n S10 (by omega) (by omega) rFr.refl (MK_iff MK10 (fun m hm => ⟨Or.inl, fun q => q.elim id (fun ⟨a, ha, _⟩ => absurd ha (Nat.not_lt_zero a))⟩))
  rw [nI_0] at e7 e10 e11
  -- from S8 to S11
  have fr811 : rFr r S8 S11 (fun j => j = 20 ∨ j = 21) := ((fr9.mono (fun j hj => Or.inr hj)).trans fr10).trans (fr11.mono (fun j hj => Or.inr hj))
  have s11 : ∀ j, j ≠ 20 → j ≠ 21 → S11.1 r j = S8.1 r j := fun j h1 h2 => fr811.2 j (by omega)
  have X11 : Ext r S11 E A8 := Ext_fr fr811 (by omega) R8.1
  have cd11 : ∀ m, rCd S11 r m = rCd S8 r m := fun m => by
    show cd _ _ _ _ m = cd _ _ _ _ m
    rw [s11 3 (by decide) (by decide), s11 4 (by decide) (by decide), s11 5 (by decide) (by decide), s11 6 (by decide) (by decide)]
  have sF11 : SameF r N S S11 := sF8.trans (SameF_fr fr811 (by omega))
  obtain ⟨EL8, EO8, ES8⟩ := RunI_EL hI' B2ok R8
  have EL11 : EL r E A8 S11 := by unfold EL; rw [s11 3 (by decide) (by decide), s11 4 (by decide) (by decide), s11 11 (by decide) (by decide)]; exact EL8
  have EO11 : ElO r A8 S11 := by unfold ElO; rw [s11 3 (by decide) (by decide), s11 4 (by decide) (by decide)]; exact EO8
  have ES11 : ∀ e m, e < E → m < A8 → S11.1 r 11 e = nI m → (S11.1 r 3 m = 3 ↔ eS e = true) := by rw [s11 3 (by decide) (by decide), s11 11 (by decide) (by decide)]; exact ES8
  have c8N : ∀ m, m < N → rCd S8 r m = rCd S r m := fun m hm => cd_congr f5.2.1 (by omega) sF8.2 m hm
  have w8N : ∀ m, m < N → wd (S8.1 r 3) (S8.1 r 5) m = wd (S.1 r 3) (S.1 r 5) m := wd_congr f5.2.1 (by omega) (fun m hm => (sF8.2 m hm).1) (fun m hm => (sF8.2 m hm).2.2.1)
  have s9 : ∀ j, j ≠ 21 → S9.1 r j = S8.1 r j := fun j h1 => fr9.2 j h1
  have hQ : RQ0 r E A8 S11 (-1) I (ivR S r) (snR S r E) (oneR S r d) (othR S r d) (fun m => (∃ a, a < E ∧ ¬ S9.1 r 15 a = 0 ∧ (S9.1 r 19 a = nI m ∨ S9.1 r 17 (tN (S9.1 r 14 a)) = nI m)) ∨ ∃ a, a < I ∧ S10.1 r 16 a = nI m) := by
    refine ⟨by rw [sF11.1 9 (by omega)]; exact f2, by rw [sF11.1 10 (by omega)]; exact i10, i11, fun k hk => ?_, Or.inl ⟨rfl, fun e => ?_, fun e he => ?_⟩⟩
    · obtain ⟨m, hm, em, em', wm⟩ := inv10 k hk
      have tm : tN (S.1 r 16 k) = m := by rw [em']; exact nI_clamp (by omega)
      refine ⟨m, by omega, by rw [sF11.1 16 (by omega)]; exact em', Or.inr ⟨k, hk, em⟩, ?_, ?_⟩
      · unfold ivR; rw [tm, cd11, c8N m hm]
      · rw [s11 3 (by decide) (by decide), s11 5 (by decide) (by decide), w8N m hm]; exact wm
    · rw [sF11.1 15 (by omega)]; exact snR_iff
    · obtain ⟨he1, he2⟩ := snR_iff.mp he
      have hs9 : ¬ S9.1 r 15 e = 0 := by rw [s9 15 (by decide), sF8.1 15 (by omega)]; exact he2
      obtain ⟨m, hm, em, cm, wm⟩ := one e he1
      obtain ⟨p, m', hp, hm', ep, em', cm', wm'⟩ := oth e he1 hs9
      have tp : tN (S9.1 r 14 e) = p := by rw [ep]; exact nI_clamp (by omega)
      refine ⟨m, m', hm, hm', ?_, ?_, Or.inl ⟨e, he1, hs9, Or.inl em⟩, Or.inl ⟨e, he1, hs9, Or.inr (by rw [tp]; exact em')⟩, by rw [cd11]; exact cm, by rw [cd11]; exact cm', by rw [s11 3 (by decide) (by decide), s11 5 (by decide) (by decide), wm, wm']⟩
      · rw [s11 19 (by decide) (by decide), ← s9 19 (by decide)]; exact em
      · rw [fr11.2 20 (by decide), w10 e he1 hs9, tp]; exact em'
  obtain ⟨y, S12, dw, dt, q1, q2, q3, q4, q5, q6, q7, q8, q9, q10⟩ := ref_ask (O := O) (n := n) h hn f4 X11 MK11 hQ EL11 EO11 ES11
  -- the roots
  have hroots : (fun c => ∃ m, m < A8 ∧ ((∃ a, a < E ∧ ¬ S9.1 r 15 a = 0 ∧ (S9.1 r 19 a = nI m ∨ S9.1 r 17 (tN (S9.1 r 14 a)) = nI m)) ∨ ∃ a, a < I ∧ S10.1 r 16 a = nI m) ∧ rCd S11 r m = c) = rts I (ivR S r) (snR S r E) (oneR S r d) (othR S r d) := by
    funext c
    apply propext
    constructor
    · rintro ⟨m, hm, (⟨a, ha, hs, hc⟩ | ⟨a, ha, hc⟩), ec⟩
      · have hsn : snR S r E a = true := snR_iff.mpr ⟨ha, by rw [s9 15 (by decide), sF8.1 15 (by omega)] at hs; exact hs⟩
        rw [cd11] at ec
        refine Or.inl ⟨a, hsn, ?_⟩
        rcases hc with hc | hc
        · obtain ⟨m', hm', em', cm', _⟩ := one a ha
          have := (nI_eq (by omega) (by omega)).mp (hc.symm.trans em')
          subst this
          left; rw [← ec, cm']
        · obtain ⟨p, m', hp, hm', ep, em', cm', _⟩ := oth a ha hs
          have tp : tN (S9.1 r 14 a) = p := by rw [ep]; exact nI_clamp (by omega)
          rw [tp] at hc
          have := (nI_eq (by omega) (by omega)).mp (hc.symm.trans em')
          subst this
          right; rw [← ec, cm']
      · obtain ⟨m', hm', em, em', wm⟩ := inv10 a ha
        have := (nI_eq (by omega) (by omega)).mp (hc.symm.trans em)
        subst this
        have tm : tN (S.1 r 16 a) = m := by rw [em']; exact nI_clamp (by omega)
        refine Or.inr ⟨a, ha, ?_⟩
        rw [cd11, c8N m hm'] at ec
        unfold ivR; rw [tm]; exact ec.symm
    · rintro (⟨e, he, hc⟩ | ⟨k, hk, hc⟩)
      · obtain ⟨he1, he2⟩ := snR_iff.mp he
        have hs9 : ¬ S9.1 r 15 e = 0 := by rw [s9 15 (by decide), sF8.1 15 (by omega)]; exact he2
        rcases hc with hc | hc
        · obtain ⟨m, hm, em, cm, _⟩ := one e he1
          exact ⟨m, hm, Or.inl ⟨e, he1, hs9, Or.inl em⟩, by rw [cd11, cm, hc]⟩
        · obtain ⟨p, m', hp, hm', ep, em', cm', _⟩ := oth e he1 hs9
          have tp : tN (S9.1 r 14 e) = p := by rw [ep]; exact nI_clamp (by omega)
          exact ⟨m', hm', Or.inl ⟨e, he1, hs9, Or.inr (by rw [tp]; exact em')⟩, by rw [cd11, cm', hc]⟩
      · obtain ⟨m, hm, em, em', wm⟩ := inv10 k hk
        have tm : tN (S.1 r 16 k) = m := by rw [em']; exact nI_clamp (by omega)
        refine ⟨m, by omega, Or.inr ⟨k, hk, em⟩, ?_⟩
        rw [cd11, c8N m hm, hc]
        unfold ivR; rw [tm]
  rw [hroots] at q10
  have fr12 : rFr r S11 (up3 S12.1 r 33 0 1, S12.2) JA := q2.up (by omega)
  have X12 : Ext r (up3 S12.1 r 33 0 1, S12.2) E A8 := Ext_fr fr12 (by omega) X11
  have sF12 : SameF r N S (up3 S12.1 r 33 0 1, S12.2) := sF11.trans (SameF_fr fr12 (by omega))
  refine ⟨y, (up3 S12.1 r 33 0 1, S12.2), dw, dt, A8, S12.1 r 33 0, ?_, ?_, ?_, sF12, ?_, by rw [up3_f (by decide)]; exact q4, by rw [up3_f (by decide)]; exact q5, q6, q7, by rw [up3_f (by decide)]; exact q8, fun z => by rw [up3_f (by decide)]; exact q9 z, up3_v, by rw [up3_f (by decide), up3_f (by decide)]; exact q10⟩
  · have hb : (decide ((0 : Int32) ≤ nI d) && decide (nI d ≤ 8)) = true := by
      rw [Bool.and_eq_true, decide_eq_true_iff, decide_eq_true_iff]
      exact ⟨nI_pos' (by omega), nI_le (b := 8) hd (by decide)⟩
    unfold G_XModel_run
    rw [rP0 h, ref_within, yC_some, hb, if_neg (show ¬ bN true = 0 by decide), rk h, e1, yV_some, rk h, e2, yV_some, rk h]
    have e3' : G_XModel_step O n r 1 S2 = some ((), S3) := e3
    rw [e3', yV_some]
    rw [nI_0] at e4
    rw [e4, e5, e6, yV_some, e7]
    have e8' : G_XModel_putIn O n r 2 S7 = some ((), S8) := e8
    rw [e8', yV_some, e9, yV_some, e10, e11, q1, yC_some, rP h (by decide)]
  · exact o1.trans (rOnly.trans R4.2.2.1 ((setF_only (S := S4) (r := r) (j := 19) (g := g)).trans (by
      have k1 : rOnly r (setF S4 r 19 g) S8 := by
        refine ⟨?_, fun o ho => ?_⟩
        · rw [R8.2.2.1.1]
          show S1.2 = S4.2
          exact R4.2.2.1.1.symm
        · rw [R8.2.2.1.2 o ho, (setF_only (S := S1) (r := r) (j := 19) (g := g)).2 o ho, (setF_only (S := S4) (r := r) (j := 19) (g := g)).2 o ho, R4.2.2.1.2 o ho]
      exact k1.trans (fr811.1.trans fr12.1))))
  · rw [fr12.2 0 (by omega), s11 0 (by decide) (by decide), R8.2.2.2 0 0 (by decide) (by decide) (by decide) (by decide) (by decide) (by omega), setF_ne (by decide)]; exact z1
  · refine RI_same hI' sF12 X12.1 (by have := R8.2.1.1; omega) hA8 (Ext_pB f4 X12) (fun m => ?_)
    rw [up3_f (by decide)]; exact q3 m
end RUN5
