/-! THE REFERENCE'S kept -/
def kpR (S : qS) (r k : Nat) : Nat := rSb S r (stp S r (pr 2 0) (st0R S r)) (pr 2 0) (tN (S.1 r 16 k))
def sn16 (e : Nat) : Bool := decide (e = 16)
theorem sn16_iff (e : Nat) : sn16 e = true ↔ e = 16 := by unfold sn16; exact decide_eq_true_iff
def rtk (I : Nat) (iv : Nat → Nat) (c0 c : Nat) : Prop := c = c0 ∨ ∃ k, k < I ∧ c = iv k
section KEPT
variable {O : qOb9} {r n E N A I : Nat} {S : qS} {eS : Nat → Bool}
theorem ref_kept (h : Ref O r) (hn : 3000000 ≤ n) (hI : RI r E N A I S eS) {kk : Nat} (hk : kk < I) :
    ∃ y S' dw dt A' dx, G_XModel_kept O n r (nI kk) S = some (y, S') ∧ rOnly r S S' ∧ S'.1 r 0 0 = 0 ∧ SameF r N S S' ∧ RI r E N A' I S' eS ∧ S'.1 r 29 0 = nI dw ∧ S'.1 r 30 0 = nI dt ∧ dw ≤ 6400 ∧ dt ≤ 6400 ∧ (S'.1 r 31 0 = if y = 0 then 1 else 0) ∧ (y = 0 → S'.1 r 35 0 = nI E) ∧ S'.1 r 34 0 = -1 ∧
      Outc (Dp (rtk I (ivR S r) (kpR S r kk))) (PD (Dp (rtk I (ivR S r) (kpR S r kk)))) E I (ivR S r) sn16 (fun _ => kpR S r kk) (fun _ => cT) eS y dw dt (S'.1 r 32) (S'.1 r 33 0) dx := by
  have hI' := hI
  obtain ⟨⟨⟨f1, f2, f3, f4, f5⟩, g2, g3, g4, g5, g6⟩, i2, i3, i4, i5, i6, i7, i8, i9, i10, i11, i12⟩ := hI
  have h3 := f5.1
  obtain ⟨S1, e1, o1, z1, sF1, same1, R1, K1, _⟩ := ref_beginQ (O := O) (n := n) h hn hI'
  have B1ok : ∀ j, (j = 3 ∨ j = 4 ∨ j = 5 ∨ j = 6 ∨ j = 9 ∨ j = 11) → S1.1 r j = S.1 r j := fun j hj => same1 j (by omega) (by omega) (by omega) (by omega)
  obtain ⟨S2, e2, R2, _, T2⟩ := ref_bs (O := O) (n := n) h hn hI' B1ok R1
  obtain ⟨_, _, _, _, k1, k9, krow, kel, knx⟩ := K1
  obtain ⟨S3, A3, e3, R3, a3, a3', T3, _⟩ := ref_step (O := O) (n := n) (w := 2) h (by omega) f4 f3 k1 k9 krow kel knx R2 (by omega) T2 (by decide)
  obtain ⟨S8, A8, e8, R8, a8, a8', t8, c8, w8, m8⟩ := ref_putIn (O := O) (n := n) (w := 2) h (by omega) f4 f3 k1 krow kel R3 (by omega) T3 (by decide)
  have hA8 := R8.1.2.1
  have sF8 : SameF r N S S8 := sF1.trans (SameF_RunI R8)
  -- the root
  obtain ⟨p, hp, ep, wp, _⟩ := i12 kk hk
  have tp : tN (S.1 r 16 kk) = p := by rw [ep]; exact nI_clamp (by omega)
  obtain ⟨v, hv, ev, cv, wv⟩ := m8 p hp
  have cv' : rCd S8 r v = kpR S r kk := by
    rw [cv]
    unfold kpR
    rw [tp]
    exact sb_congr f5.2.1 (by omega) f4 sF1.2 (fun a ha => stp_congr f5.2.1 f3 f4 sF1 i5 (fun _ _ => rfl) a ha) p hp
  have wv' : wd (S8.1 r 3) (S8.1 r 5) v = false := by rw [wv, B1ok 3 (by omega), B1ok 5 (by omega)]; exact wp
  have e9 := ref_unmark (O := O) (n := n) (S := S8) h (by omega) hA8 R8.1.1
  generalize hS9 : setF S8 r 21 (fun k => if k < A8 then 0 else S8.1 r 21 k) = S9 at e9
  have fr9 : rFr r S8 S9 (fun j => j = 21) := by rw [← hS9]; exact ⟨setF_only, fun j hj => setF_ne hj⟩
  have m01 : ∀ q, S8.1 r 21 q = 0 ∨ S8.1 r 21 q = 1 := fun q => by
    rw [R8.2.2.2 21 q (by decide) (by decide) (by decide) (by decide) (by decide) (by omega), same1 21 (by decide) (by decide) (by decide) (by decide)]
    exact g6 q
  have MK9 : MK r A8 S9 (fun _ => False) := by
    rw [← hS9]
    refine ⟨fun q => ?_, fun m hm => ?_⟩
    · rw [setF_same]
      show (if q < A8 then (0 : Int32) else S8.1 r 21 q) = 0 ∨ (if q < A8 then (0 : Int32) else S8.1 r 21 q) = 1
      by_cases z : q < A8
      · rw [if_pos z]; exact Or.inl rfl
      · rw [if_neg z]; exact m01 q
    · rw [setF_same]
      show ¬ (if m < A8 then (0 : Int32) else S8.1 r 21 m) = 0 ↔ False
      rw [if_pos hm]
      exact ⟨fun q => q rfl, fun q => q.elim⟩
  obtain ⟨S10, e10, fr10, MK10⟩ := ref_mark_MK (O := O) (n := n) h hA8 hv MK9
  have inv10 : ∀ k, k < I → ∃ m, m < N ∧ S10.1 r 16 k = nI m ∧ S.1 r 16 k = nI m ∧ wd (S.1 r 3) (S.1 r 5) m = false := fun k hk => by
    obtain ⟨m, hm, em, wm, _⟩ := i12 k hk
    exact ⟨m, hm, by rw [fr10.2 16 (by decide), fr9.2 16 (by decide), sF8.1 16 (by omega)]; exact em, em, wm⟩
  obtain ⟨S11, fr11, MK11, e11⟩ := ref_kept_66 (O := O) (n := n) (l2 := nI v) h hA8 (Sb := S10) (by rw [fr10.2 10 (by decide), fr9.2 10 (by decide), sF8.1 10 (by omega)]; exact i10) i11 (fun k hk => by
    obtain ⟨m, hm, em, _⟩ := inv10 k hk
    exact ⟨m, by omega, em⟩) (T := fun m => m = v) I 0 n S10 (by omega) (by omega) rFr.refl (MK_iff MK10 (fun m hm => ⟨fun q => q.elim (fun w => w.elim) Or.inl, fun q => q.elim Or.inr (fun ⟨a, ha, _⟩ => absurd ha (Nat.not_lt_zero a))⟩))
  rw [nI_0] at e11
  have fr811 : rFr r S8 S11 (fun j => j = 21) := (fr9.trans fr10).trans fr11
  have s11 : ∀ j, j ≠ 21 → S11.1 r j = S8.1 r j := fun j h1 => fr811.2 j h1
  have X11 : Ext r S11 E A8 := Ext_fr fr811 (by omega) R8.1
  have cd11 : ∀ m, rCd S11 r m = rCd S8 r m := fun m => by
    show cd _ _ _ _ m = cd _ _ _ _ m
    rw [s11 3 (by decide), s11 4 (by decide), s11 5 (by decide), s11 6 (by decide)]
  have sF11 : SameF r N S S11 := sF8.trans (SameF_fr fr811 (by omega))
  obtain ⟨EL8, EO8, ES8⟩ := RunI_EL hI' B1ok R8
  have EL11 : EL r E A8 S11 := by unfold EL; rw [s11 3 (by decide), s11 4 (by decide), s11 11 (by decide)]; exact EL8
  have EO11 : ElO r A8 S11 := by unfold ElO; rw [s11 3 (by decide), s11 4 (by decide)]; exact EO8
  have ES11 : ∀ e m, e < E → m < A8 → S11.1 r 11 e = nI m → (S11.1 r 3 m = 3 ↔ eS e = true) := by rw [s11 3 (by decide), s11 11 (by decide)]; exact ES8
  have c8N : ∀ m, m < N → rCd S8 r m = rCd S r m := fun m hm => cd_congr f5.2.1 (by omega) sF8.2 m hm
  have w8N : ∀ m, m < N → wd (S8.1 r 3) (S8.1 r 5) m = wd (S.1 r 3) (S.1 r 5) m := wd_congr f5.2.1 (by omega) (fun m hm => (sF8.2 m hm).1) (fun m hm => (sF8.2 m hm).2.2.1)
  have hQ : RQ0 r E A8 S11 (nI v) I (ivR S r) sn16 (fun _ => kpR S r kk) (fun _ => cT) (fun m => m = v ∨ ∃ a, a < I ∧ S10.1 r 16 a = nI m) := by
    refine ⟨by rw [sF11.1 9 (by omega)]; exact f2, by rw [sF11.1 10 (by omega)]; exact i10, i11, fun k hk => ?_, Or.inr ⟨v, hv, rfl, Or.inl rfl, by rw [cd11]; exact cv', by rw [s11 3 (by decide), s11 5 (by decide)]; exact wv', rfl, sn16_iff⟩⟩
    obtain ⟨m, hm, em, em', wm⟩ := inv10 k hk
    have tm : tN (S.1 r 16 k) = m := by rw [em']; exact nI_clamp (by omega)
    refine ⟨m, by omega, by rw [sF11.1 16 (by omega)]; exact em', Or.inr ⟨k, hk, em⟩, ?_, ?_⟩
    · unfold ivR; rw [tm, cd11, c8N m hm]
    · rw [s11 3 (by decide), s11 5 (by decide), w8N m hm]; exact wm
  obtain ⟨y, S12, dw, dt, q1, q2, q3, q4, q5, q6, q7, q8, q9, q10⟩ := ref_ask (O := O) (n := n) h hn f4 X11 MK11 hQ EL11 EO11 ES11
  have hroots : (fun c => ∃ m, m < A8 ∧ (m = v ∨ ∃ a, a < I ∧ S10.1 r 16 a = nI m) ∧ rCd S11 r m = c) = rtk I (ivR S r) (kpR S r kk) := by
    funext c
    apply propext
    constructor
    · rintro ⟨m, hm, (rfl | ⟨a, ha, hc⟩), ec⟩
      · left; rw [cd11, cv'] at ec; exact ec.symm
      · obtain ⟨m', hm', em, em', wm⟩ := inv10 a ha
        have := (nI_eq (by omega) (by omega)).mp (hc.symm.trans em)
        subst this
        have tm : tN (S.1 r 16 a) = m := by rw [em']; exact nI_clamp (by omega)
        refine Or.inr ⟨a, ha, ?_⟩
        rw [cd11, c8N m hm'] at ec
        unfold ivR; rw [tm]; exact ec.symm
    · rintro (hc | ⟨k, hk, hc⟩)
      · exact ⟨v, hv, Or.inl rfl, by rw [cd11, cv', hc]⟩
      · obtain ⟨m, hm, em, em', wm⟩ := inv10 k hk
        have tm : tN (S.1 r 16 k) = m := by rw [em']; exact nI_clamp (by omega)
        refine ⟨m, by omega, Or.inr ⟨k, hk, em⟩, ?_⟩
        rw [cd11, c8N m hm, hc]
        unfold ivR; rw [tm]
  rw [hroots] at q10
  have fr12 : rFr r S11 (up3 S12.1 r 34 0 (-1), S12.2) JA := q2.up (by omega)
  have X12 : Ext r (up3 S12.1 r 34 0 (-1), S12.2) E A8 := Ext_fr fr12 (by omega) X11
  have sF12 : SameF r N S (up3 S12.1 r 34 0 (-1), S12.2) := sF11.trans (SameF_fr fr12 (by omega))
  refine ⟨y, (up3 S12.1 r 34 0 (-1), S12.2), dw, dt, A8, S12.1 r 34 0, ?_, ?_, ?_, sF12, ?_, by rw [up3_f (by decide)]; exact q4, by rw [up3_f (by decide)]; exact q5, q6, q7, by rw [up3_f (by decide)]; exact q8, fun z => by rw [up3_f (by decide)]; exact q9 z, up3_v, by rw [up3_f (by decide), up3_f (by decide)]; exact q10⟩
  · obtain ⟨I', rfl⟩ : ∃ q, I = q + 1 := ⟨I - 1, by omega⟩
    have hb : (decide ((0 : Int32) ≤ nI kk) && decide (nI kk ≤ nI (I' + 1) - 1)) = true := by
      rw [Bool.and_eq_true, decide_eq_true_iff, decide_eq_true_iff, nI_pred]
      exact ⟨nI_pos' (by omega), nI_le (by omega) (by omega)⟩
    have k16 : kk < refN 16 := by show kk < 8; omega
    have p17 : p < refN 17 := by show p < 300; omega
    unfold G_XModel_kept
    rw [rP0 h, rI h (by decide), thr_f (by decide), i10, ref_within, yC_some, hb, if_neg (show ¬ bN true = 0 by decide), rk h, e1, yV_some, rk h, e2, yV_some, rk h]
    have e3' : G_XModel_step O n r 2 S2 = some ((), S3) := e3
    have e8' : G_XModel_putIn O n r 2 S3 = some ((), S8) := e8
    rw [e3', yV_some, rk h, e8', yV_some, rA h (by decide), rA h (by decide), rl h (by decide) (by decide) k16, sF8.1 16 (by omega), ep, rl h (by decide) (by decide) p17, ev, rk h, e9, yV_some, rk h, e10, yV_some, e11, q1, yC_some, rP h (by decide)]
  · exact o1.trans (rOnly.trans R8.2.2.1 (fr811.1.trans fr12.1))
  · rw [fr12.2 0 (by omega), s11 0 (by decide), R8.2.2.2 0 0 (by decide) (by decide) (by decide) (by decide) (by decide) (by omega)]; exact z1
  · refine RI_same hI' sF12 X12.1 (by have := R8.2.1.1; omega) hA8 (Ext_pB f4 X12) (fun m => ?_)
    rw [up3_f (by decide)]; exact q3 m
end KEPT
