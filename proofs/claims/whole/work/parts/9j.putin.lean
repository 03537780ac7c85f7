section SORTS
variable {κ α β γ : Nat → Int32} {E N : Nat}
theorem wc_mkE (a b : Nat) : wc (mkE a b) = false := by
  unfold mkE
  by_cases h : a = b
  · rw [if_pos h, wc_pr (by decide)]; rfl
  · rw [if_neg h, wc_pr (by decide)]; rfl
theorem wc_mkN (hS : Store κ α β γ E N) (hN : N < 2 ^ 31) (hE : E ≤ 16) {x : Nat} (hx : x < N) (w : wd κ β x = false) : wc (mkN (cd κ α β γ x)) = false := by
  by_cases k : κ x = 7
  · obtain ⟨_, q, _, hq, _, e, _, _, _, wq, _⟩ := row_7 hS.2.1 hN hE hx k
    rw [mkN_part hS hN hE hx k e (by omega), cd_wc hS.2.1 hN hE q (by omega), wq]
  · unfold mkN
    by_cases h1 : cd κ α β γ x = cT
    · rw [if_pos h1, wc_pr (by decide)]; rfl
    · rw [if_neg h1]
      by_cases h0 : cd κ α β γ x = cF
      · rw [if_pos h0, wc_pr (by decide)]; rfl
      · rw [if_neg h0, if_neg (fun q => k (by rw [(cd_kind hS.2.1 hN hE hx).1, q]; rfl)), wc_pr (by decide)]; rfl
theorem wc_mkB {a b : Nat} (ha : wc a = false) (hb : wc b = false) : wc (mkB a b) = false := by
  unfold mkB
  by_cases h1 : a = cF
  · rw [if_pos h1, wc_pr (by decide)]; rfl
  rw [if_neg h1]
  by_cases h2 : b = cF
  · rw [if_pos h2, wc_pr (by decide)]; rfl
  rw [if_neg h2]
  by_cases h3 : a = cT
  · rw [if_pos h3]; exact hb
  rw [if_neg h3]
  by_cases h4 : b = cT
  · rw [if_pos h4]; exact ha
  rw [if_neg h4]
  by_cases h5 : a = b
  · rw [if_pos h5]; exact ha
  rw [if_neg h5, wc_pr (by decide)]; rfl
theorem wc_mkC {c a b : Nat} (h : wc a = wc b) : wc (mkC c a b) = wc a := by
  unfold mkC
  by_cases h1 : c = cT
  · rw [if_pos h1]
  rw [if_neg h1]
  by_cases h2 : c = cF
  · rw [if_pos h2, h]
  rw [if_neg h2]
  by_cases h3 : a = b
  · rw [if_pos h3]
  rw [if_neg h3, wc_C]
theorem wc_A (g a b : Nat) : wc (cA g a b) = true := by rw [wc_pr (by decide)]; rfl
end SORTS
/-! THE REFERENCE PUTS A STATE IN -/
/-- codes of the face's rows under a state -/
abbrev rSb (S : qS) (r : Nat) (st : Nat → Nat) (fc n : Nat) : Nat := sb (S.1 r 3) (S.1 r 4) (S.1 r 5) (S.1 r 6) st fc n
def PutI (r E A0 : Nat) (S0 : qS) (st : Nat → Nat) (fc : Nat) (S : qS) (A i : Nat) : Prop :=
  (Ext r S E A ∧ ∀ m, A0 ≤ m → m < A → ¬ S.1 r 3 m ≤ 4) ∧ A0 ≤ A ∧ A ≤ A0 + i ∧ rOnly r S0 S ∧ (∀ j k, j ≠ 7 → j ≠ 8 → j ≠ 2 → j ≠ 17 → ¬ (3 ≤ j ∧ j ≤ 6 ∧ A0 ≤ k) → S.1 r j k = S0.1 r j k) ∧
  ∀ m, m < i → ∃ v, v < A ∧ S.1 r 17 m = nI v ∧ rCd S r v = rSb S0 r st fc m ∧ wd (S.1 r 3) (S.1 r 5) v = wd (S0.1 r 3) (S0.1 r 5) m
section PUTIN
variable {O : qOb9} {r n E N A0 : Nat} {S0 : qS} {st : Nat → Nat} {fc : Nat}
theorem Ext_up {S : qS} {A j i : Nat} {v : Int32} (hj : j ≠ 2 ∧ j ≠ 3 ∧ j ≠ 4 ∧ j ≠ 5 ∧ j ≠ 6 ∧ j ≠ 7 ∧ j ≠ 8) (h : Ext r S E A) : Ext r (setF S r j (upd1 (S.1 r j) i v)) E A := by
  obtain ⟨h1, h2, h3, h4⟩ := h
  refine ⟨?_, h2, ?_, ?_⟩
  · rw [setF_ne (Ne.symm hj.1)]; exact h1
  · rw [setF_ne (Ne.symm hj.2.1), setF_ne (Ne.symm hj.2.2.1), setF_ne (Ne.symm hj.2.2.2.1), setF_ne (Ne.symm hj.2.2.2.2.1)]; exact h3
  · have hr : ∀ i', rowH ((setF S r j (upd1 (S.1 r j) i v)).1 r) i' = rowH (S.1 r) i' := fun i' => by
      unfold rowH
      rw [setF_ne (Ne.symm hj.2.1), setF_ne (Ne.symm hj.2.2.1), setF_ne (Ne.symm hj.2.2.2.1), setF_ne (Ne.symm hj.2.2.2.2.1)]
    refine ⟨fun hh hb => ?_, fun i' hi => ?_⟩
    · rw [setF_ne (Ne.symm hj.2.2.2.2.2.1), h4.1 hh hb]
      exact (rTop_congr fun i' _ => hr i').symm
    · rw [setF_ne (Ne.symm hj.2.2.2.2.2.2), h4.2 i' hi, hr]
      exact (rTop_congr fun i' _ => hr i').symm
theorem PutI_put {S S1 : qS} {A A1 i v : Nat} (hP : PutI r E A0 S0 st fc S A i) (hM : MkR r E S S1 A A1 v (rSb S0 r st fc i)) (hw : wd (S1.1 r 3) (S1.1 r 5) v = wd (S0.1 r 3) (S0.1 r 5) i) : PutI r E A0 S0 st fc (setF S1 r 17 (upd1 (S1.1 r 17) i (nI v))) A1 (i + 1) := by
  obtain ⟨⟨x1, x0⟩, x2, x3, x4, x5, x6⟩ := hP
  obtain ⟨m1, m2, m3, m4, m5, m6, m7, m8⟩ := hM
  have rows : ∀ j, j ≠ 17 → (setF S1 r 17 (upd1 (S1.1 r 17) i (nI v))).1 r j = S1.1 r j := fun j hj => setF_ne hj
  have cde : ∀ q, rCd (setF S1 r 17 (upd1 (S1.1 r 17) i (nI v))) r q = rCd S1 r q := fun q => by
    show cd _ _ _ _ q = cd _ _ _ _ q
    rw [rows 3 (by decide), rows 4 (by decide), rows 5 (by decide), rows 6 (by decide)]
  refine ⟨⟨Ext_up (by decide) m4, fun m h1 h2 => by
    rw [rows 3 (by decide)]
    by_cases q : m < A
    · rw [m6 3 m (by decide) (by decide) (by decide) (by omega)]; exact x0 m h1 q
    · exact m8 m (by omega) h2⟩, by omega, by omega, x4.trans (m5.trans setF_only), fun j k h7 h8 h2 h17 hne => ?_, fun m hm => ?_⟩
  · rw [rows j h17, m6 j k h7 h8 h2 (by omega), x5 j k h7 h8 h2 h17 hne]
  · have e17 : (setF S1 r 17 (upd1 (S1.1 r 17) i (nI v))).1 r 17 m = if m = i then nI v else S1.1 r 17 m := by rw [setF_same]; rfl
    rw [e17]
    by_cases e : m = i
    · subst e
      refine ⟨v, m1, if_pos rfl, ?_, ?_⟩
      · rw [cde]; exact m7
      · rw [rows 3 (by decide), rows 5 (by decide)]; exact hw
    · obtain ⟨u, u1, u2, u3, u4⟩ := x6 m (by omega)
      refine ⟨u, by omega, ?_, ?_, ?_⟩
      · rw [if_neg e, m6 17 m (by decide) (by decide) (by decide) (by omega)]; exact u2
      · rw [cde, ext_cd x1 m6 u1]; exact u3
      · rw [rows 3 (by decide), rows 5 (by decide), ← u4]
        have hA := x1.2.1
        exact wd_congr x1.2.2.1.2.1 (by omega) (fun q hq => m6 3 q (by decide) (by decide) (by decide) (by omega)) (fun q hq => m6 5 q (by decide) (by decide) (by decide) (by omega)) u u1
/-- what a state is: nodes of the elements' sorts -/
def StOk (r E A : Nat) (S : qS) (st : Nat → Nat) (eS : Nat → Bool) : Prop := ∀ e, e < E → ∃ u, u < A ∧ S.1 r 18 e = nI u ∧ rCd S r u = st e ∧ wd (S.1 r 3) (S.1 r 5) u = eS e
/-- the elements' sorts -/
def ElS (r N : Nat) (S : qS) (eS : Nat → Bool) : Prop := ∀ m e, m < N → S.1 r 4 m = nI e → e < 16 → (S.1 r 3 m = 3 → eS e = true) ∧ (S.1 r 3 m = 4 → eS e = false)
theorem MkR_same {S : qS} {A v : Nat} (hX : Ext r S E A) (hv : v < A) : MkR r E S S A A v (rCd S r v) := ⟨hv, Nat.le_refl A, Nat.le_succ A, hX, rOnly.refl, fun _ _ _ _ _ _ => rfl, rfl, fun m h1 h2 => by omega⟩
theorem ref_putIn_2 (h : Ref O r) (hn : 7000 ≤ n) (hE : E ≤ 16) (hX0 : Ext r S0 E A0) (hNA : N ≤ A0) (h1 : S0.1 r 1 0 = nI N) (hN3 : N ≤ 300) (hroom : A0 + N ≤ 6400) {eS : Nat → Bool} (hst : StOk r E A0 S0 st eS) (hel : ElS r N S0 eS) {w : Nat} (hw0 : w < A0) (hwd : wd (S0.1 r 3) (S0.1 r 5) w = false) (hfc : rCd S0 r w = fc) :
    ∀ (d i f : Nat) (S : qS) (A : Nat), i + d = N → d < f → PutI r E A0 S0 st fc S A i → ∃ S' A', G_XModel_putIn_2 O n f r (nI w) (nI i) S = some ((), S') ∧ PutI r E A0 S0 st fc S' A' N := by
  have hS0 := hX0.2.2.1
  have hA0 := hX0.2.1
  intro d
  induction d with
  | zero =>
    intro i f S A e hf hP
    obtain ⟨f, rfl⟩ : ∃ q, f = q + 1 := ⟨f - 1, by omega⟩
    have e1 : S.1 r 1 0 = nI N := by rw [hP.2.2.2.2.1 1 0 (by decide) (by decide) (by decide) (by decide) (by omega)]; exact h1
    rw [G_XModel_putIn_2, rI h (by decide), e1, if_pos (nI_le (by omega) (by omega))]
    exact ⟨S, A, rfl, by rw [← e]; exact hP⟩
  | succ d ih =>
    intro i f S A e hf hP
    obtain ⟨f, rfl⟩ : ∃ q, f = q + 1 := ⟨f - 1, by omega⟩
    have hP' := hP
    obtain ⟨⟨x1, x0⟩, x2, x3, x4, x5, x6⟩ := hP
    have e1 : S.1 r 1 0 = nI N := by rw [x5 1 0 (by decide) (by decide) (by decide) (by decide) (by omega)]; exact h1
    have hA := x1.2.1
    have i0 : i < 6400 := by omega
    have i3 : i < refN 3 := i0
    have i4 : i < refN 4 := i0
    have i5 : i < refN 5 := i0
    have i6 : i < refN 6 := i0
    have i17 : i < refN 17 := by show i < 300; omega
    have r3 : S.1 r 3 i = S0.1 r 3 i := x5 3 i (by decide) (by decide) (by decide) (by decide) (by omega)
    have r4 : S.1 r 4 i = S0.1 r 4 i := x5 4 i (by decide) (by decide) (by decide) (by decide) (by omega)
    have r5 : S.1 r 5 i = S0.1 r 5 i := x5 5 i (by decide) (by decide) (by decide) (by decide) (by omega)
    have r6 : S.1 r 6 i = S0.1 r 6 i := x5 6 i (by decide) (by decide) (by decide) (by decide) (by omega)
    have cdS : ∀ m, m < A0 → rCd S r m = rCd S0 r m := fun m hm => cd_congr (N := A0) hS0.2.1 (by omega) (fun q hq => ⟨x5 3 q (by decide) (by decide) (by decide) (by decide) (by omega), x5 4 q (by decide) (by decide) (by decide) (by decide) (by omega), x5 5 q (by decide) (by decide) (by decide) (by decide) (by omega), x5 6 q (by decide) (by decide) (by decide) (by decide) (by omega)⟩) m hm
    have wdS : ∀ m, m < A0 → wd (S.1 r 3) (S.1 r 5) m = wd (S0.1 r 3) (S0.1 r 5) m := fun m hm => wd_congr (N := A0) hS0.2.1 (by omega) (fun q hq => x5 3 q (by decide) (by decide) (by decide) (by decide) (by omega)) (fun q hq => x5 5 q (by decide) (by decide) (by decide) (by decide) (by omega)) m hm
    -- what is left to do after node i was made v in S1
    have fin : ∀ (S1 : qS) (A1 v : Nat), MkR r E S S1 A A1 v (rSb S0 r st fc i) → wd (S1.1 r 3) (S1.1 r 5) v = wd (S0.1 r 3) (S0.1 r 5) i → ∃ S' A', (hw 0 O S1 (r, 17) (nI i) (nI v) (fun S5 => G_XModel_putIn_202 O n (G_XModel_putIn_2 O n f) r (nI w) (nI i) S5)) = some ((), S') ∧ PutI r E A0 S0 st fc S' A' N := by
      intro S1 A1 v hM hwv
      rw [rw' h (by decide) (by decide) i17, setF_up]
      show ∃ S' A', G_XModel_putIn_202 O n (G_XModel_putIn_2 O n f) r (nI w) (nI i) (setF S1 r 17 (upd1 (S1.1 r 17) i (nI v))) = some ((), S') ∧ PutI r E A0 S0 st fc S' A' N
      unfold G_XModel_putIn_202
      rw [hB_eq, nI_1]
      exact ih (i + 1) f _ A1 (by omega) (by omega) (PutI_put hP' hM hwv)
    have rOk := hS0.2.1
    have gt4 : ∀ k : Nat, 5 ≤ k → k < 10 → S0.1 r 3 i = nI k → (2 : Int32) ≤ S0.1 r 3 i ∧ ¬ S0.1 r 3 i = 2 ∧ (5 : Int32) ≤ S0.1 r 3 i := by
      intro k k5 k10 hk
      rw [hk]
      exact ⟨nI_le (a := 2) (by omega) (by omega), fun q => by have := (nI_eq (a := k) (b := 2) (by omega) (by decide)).mp q; omega, nI_le (a := 5) (by omega) (by omega)⟩
    rw [G_XModel_putIn_2, rI h (by decide), e1, if_neg (nI_ge (by omega) (by omega)), rA h (by decide), rl h (by decide) (by decide) i3, r3]
    have old : ∀ x, x < i → ∃ v, v < A ∧ S.1 r 17 x = nI v ∧ rCd S r v = rSb S0 r st fc x ∧ wd (S.1 r 3) (S.1 r 5) v = wd (S0.1 r 3) (S0.1 r 5) x := x6
    have wdn : ∀ {S1 : qS} {A1 v c : Nat}, MkR r E S S1 A A1 v c → wd (S1.1 r 3) (S1.1 r 5) v = wc c := by
      intro S1 A1 v c hM
      obtain ⟨m1, m2, m3, m4, m5, m6, m7, m8⟩ := hM
      have := m4.2.1
      rw [← m7]
      exact (cd_wc m4.2.2.1.2.1 (by omega) hE v m1).symm
    rcases cd_row rOk (by omega) hE (show i < A0 by omega) with ⟨h0, k, -, ec⟩ | ⟨h0, a, ha, k, ea, ec⟩ | ⟨h0, a, ha, k, ea, ec⟩ | ⟨h0, x, g, hx, hg, k, ex, ey, eg, wx, ec⟩ | ⟨h0, x, y, g, hx, hy, hg, k, ex, ey, eg, wx, wy, ec⟩ | ⟨h0, x, y, hx, hy, k, ex, ey, ez, wx, wy, ec⟩ | ⟨h0, x, _, hx, k, ex, ey, ez, _, wx, ec⟩ | ⟨h0, x, y, _, hx, hy, k, ex, ey, ez, wx, wy, ec⟩ | ⟨h0, x, y, z, _, hx, hy, hz, _, k, ex, ey, ez, wx, we, ec⟩
    · -- a constant
      by_cases i2 : i = 2
      · subst i2
        rw [k, if_pos (by decide), if_pos (by decide), rA h (by decide)]
        refine fin S A w ?_ ?_
        · have := MkR_same (v := w) x1 (by omega)
          rw [cdS w hw0, hfc] at this
          rw [show rSb S0 r st fc 2 = fc from sb_2 (by rw [k]; rfl)]
          exact this
        · rw [wdS w hw0, hwd, wd_n9 (by rw [k]; decide), k]; rfl
      · rw [k, if_neg (show ¬ (2 : Int32) ≤ nI i from nI_ge (a := i) (b := 2) (by omega) (by decide)), rA h (by decide)]
        refine fin S A i ?_ ?_
        · have := MkR_same (v := i) x1 (by omega)
          rw [cdS i (by omega), show rCd S0 r i = pr i 0 from ec] at this
          rw [show rSb S0 r st fc i = pr i 0 from sb_c (by omega) k]
          exact this
        · exact wdS i (by omega)
    · obtain ⟨u, hu, eu, cu, wu⟩ := hst a ha
      have a18 : a < refN 18 := by show a < 16; omega
      rw [k, if_pos (by decide), if_neg (by decide), if_neg (by decide), rA h (by decide), rA h (by decide), rA h (by decide), rl h (by decide) (by decide) i4, r4, ea, rl h (by decide) (by decide) a18, x5 18 a (by decide) (by decide) (by decide) (by decide) (by omega), eu]
      refine fin S A u ?_ ?_
      · have := MkR_same (v := u) x1 (by omega)
        rw [cdS u hu, cu] at this
        rw [show rSb S0 r st fc i = st a from sb_e (by omega) (Or.inl k) ea]
        exact this
      · rw [wdS u hu, wu, (hel i a (by omega) ea (by omega)).1 k, wd_n9 (by rw [k]; decide), k]; rfl
    · obtain ⟨u, hu, eu, cu, wu⟩ := hst a ha
      have a18 : a < refN 18 := by show a < 16; omega
      rw [k, if_pos (by decide), if_neg (by decide), if_neg (by decide), rA h (by decide), rA h (by decide), rA h (by decide), rl h (by decide) (by decide) i4, r4, ea, rl h (by decide) (by decide) a18, x5 18 a (by decide) (by decide) (by decide) (by decide) (by omega), eu]
      refine fin S A u ?_ ?_
      · have := MkR_same (v := u) x1 (by omega)
        rw [cdS u hu, cu] at this
        rw [show rSb S0 r st fc i = st a from sb_e (by omega) (Or.inr k) ea]
        exact this
      · rw [wdS u hu, wu, (hel i a (by omega) ea (by omega)).2 k, wd_n9 (by rw [k]; decide), k]; rfl
    · -- an application of one
      obtain ⟨vx, hvx, evx, cvx, wvx⟩ := old x hx
      have x17 : x < refN 17 := by show x < 300; omega
      obtain ⟨t1, t2, t3⟩ := gt4 5 (by decide) (by decide) k
      rw [if_pos t1, if_neg t2, if_pos t3, if_pos k, rA h (by decide), rA h (by decide), rA h (by decide), rl h (by decide) (by decide) i4, r4, ex, rl h (by decide) (by decide) x17, evx, rA h (by decide), rl h (by decide) (by decide) i5, r5, ey, if_neg (by decide)]
      unfold G_XModel_putIn_119
      rw [rA h (by decide), rl h (by decide) (by decide) i6, r6, eg, rk h, k]
      obtain ⟨v, A1, S1, em, hM⟩ := ext_mk5 (O := O) (n := n) (b := -1) h hn x1 (by omega) hE hvx (by rw [wvx]; exact wx) hg (Or.inl rfl)
      rw [em, yC_some]
      rw [cvx, if_pos (by decide)] at hM
      have es : rSb S0 r st fc i = cA g (rSb S0 r st fc x) 0 := sb_5a rOk (by omega) (by omega) hg hx k ex ey eg
      refine fin S1 A1 v (by rw [es]; exact hM) ?_
      rw [wdn hM, wc_A, wd_n9 (by rw [k]; decide), k]; rfl
    · -- of two
      obtain ⟨vx, hvx, evx, cvx, wvx⟩ := old x hx
      obtain ⟨vy, hvy, evy, cvy, wvy⟩ := old y hy
      have x17 : x < refN 17 := by show x < 300; omega
      have y17 : y < refN 17 := by show y < 300; omega
      obtain ⟨t1, t2, t3⟩ := gt4 5 (by decide) (by decide) k
      rw [if_pos t1, if_neg t2, if_pos t3, if_pos k, rA h (by decide), rA h (by decide), rA h (by decide), rl h (by decide) (by decide) i4, r4, ex, rl h (by decide) (by decide) x17, evx, rA h (by decide), rl h (by decide) (by decide) i5, r5, ey, if_pos (nI_pos' (by omega)), rA h (by decide), rA h (by decide), rl h (by decide) (by decide) i5, r5, ey, rl h (by decide) (by decide) y17, evy]
      unfold G_XModel_putIn_119
      rw [rA h (by decide), rl h (by decide) (by decide) i6, r6, eg, rk h, k]
      obtain ⟨v, A1, S1, em, hM⟩ := ext_mk5 (O := O) (n := n) (b := nI vy) h hn x1 (by omega) hE hvx (by rw [wvx]; exact wx) hg (Or.inr ⟨vy, hvy, rfl, by rw [wvy]; exact wy⟩)
      rw [em, yC_some]
      rw [cvx, if_neg (nI_pos (by omega)), nI_clamp (by omega), cvy] at hM
      have es : rSb S0 r st fc i = cA g (rSb S0 r st fc x) (rSb S0 r st fc y + 1) := sb_5b rOk (by omega) (by omega) hg hx hy k ex ey eg
      refine fin S1 A1 v (by rw [es]; exact hM) ?_
      rw [wdn hM, wc_A, wd_n9 (by rw [k]; decide), k]; rfl
    · -- an equality
      obtain ⟨vx, hvx, evx, cvx, wvx⟩ := old x (by omega)
      obtain ⟨vy, hvy, evy, cvy, wvy⟩ := old y hy
      have x17 : x < refN 17 := by show x < 300; omega
      have y17 : y < refN 17 := by show y < 300; omega
      obtain ⟨t1, t2, t3⟩ := gt4 6 (by decide) (by decide) k
      rw [if_pos t1, if_neg t2, if_pos t3, if_neg (by rw [k]; decide), rA h (by decide), rA h (by decide), rA h (by decide), rl h (by decide) (by decide) i4, r4, ex, rl h (by decide) (by decide) x17, evx, rA h (by decide), rl h (by decide) (by decide) i5, r5, ey, if_pos (nI_pos' (by omega)), rA h (by decide), rA h (by decide), rl h (by decide) (by decide) i5, r5, ey, rl h (by decide) (by decide) y17, evy]
      unfold G_XModel_putIn_174
      rw [rA h (by decide), rl h (by decide) (by decide) i6, r6, ez, if_neg (by decide)]
      unfold G_XModel_putIn_198
      rw [rk h, k]
      obtain ⟨v, A1, S1, em, hM⟩ := ext_mk6 (O := O) (n := n) h hn x1 (by omega) hE hvx hvy (by rw [wvx]; exact wx) (by rw [wvy]; exact wy)
      rw [em, yC_some]
      rw [cvx, cvy] at hM
      have es : rSb S0 r st fc i = mkE (rSb S0 r st fc x) (rSb S0 r st fc y) := sb_6 rOk (by omega) (by omega) (by omega) hy k ex ey
      refine fin S1 A1 v (by rw [es]; exact hM) ?_
      rw [wdn hM, wc_mkE, wd_n9 (by rw [k]; decide), k]; rfl
    · -- a not
      obtain ⟨vx, hvx, evx, cvx, wvx⟩ := old x hx
      have x17 : x < refN 17 := by show x < 300; omega
      obtain ⟨t1, t2, t3⟩ := gt4 7 (by decide) (by decide) k
      rw [if_pos t1, if_neg t2, if_pos t3, if_neg (by rw [k]; decide), rA h (by decide), rA h (by decide), rA h (by decide), rl h (by decide) (by decide) i4, r4, ex, rl h (by decide) (by decide) x17, evx, rA h (by decide), rl h (by decide) (by decide) i5, r5, ey, if_neg (by decide)]
      unfold G_XModel_putIn_174
      rw [rA h (by decide), rl h (by decide) (by decide) i6, r6, ez, if_neg (by decide)]
      unfold G_XModel_putIn_198
      rw [rk h, k]
      obtain ⟨v, A1, S1, em, hM⟩ := ext_mk7 (O := O) (n := n) h hn x1 (by omega) hE hvx (by rw [wvx]; exact wx)
      rw [em, yC_some]
      have wN := wc_mkN x1.2.2.1 (by omega) hE hvx (by rw [wvx]; exact wx)
      rw [show cd (S.1 r 3) (S.1 r 4) (S.1 r 5) (S.1 r 6) vx = _ from cvx] at wN
      rw [cvx] at hM
      have es : rSb S0 r st fc i = mkN (rSb S0 r st fc x) := sb_7 rOk (by omega) (by omega) hx k ex
      refine fin S1 A1 v (by rw [es]; exact hM) ?_
      rw [wdn hM, wN, wd_n9 (by rw [k]; decide), k]; rfl
    · -- a both
      obtain ⟨vx, hvx, evx, cvx, wvx⟩ := old x (by omega)
      obtain ⟨vy, hvy, evy, cvy, wvy⟩ := old y hy
      have x17 : x < refN 17 := by show x < 300; omega
      have y17 : y < refN 17 := by show y < 300; omega
      obtain ⟨t1, t2, t3⟩ := gt4 8 (by decide) (by decide) k
      rw [if_pos t1, if_neg t2, if_pos t3, if_neg (by rw [k]; decide), rA h (by decide), rA h (by decide), rA h (by decide), rl h (by decide) (by decide) i4, r4, ex, rl h (by decide) (by decide) x17, evx, rA h (by decide), rl h (by decide) (by decide) i5, r5, ey, if_pos (nI_pos' (by omega)), rA h (by decide), rA h (by decide), rl h (by decide) (by decide) i5, r5, ey, rl h (by decide) (by decide) y17, evy]
      unfold G_XModel_putIn_174
      rw [rA h (by decide), rl h (by decide) (by decide) i6, r6, ez, if_neg (by decide)]
      unfold G_XModel_putIn_198
      rw [rk h, k]
      obtain ⟨v, A1, S1, em, hM⟩ := ext_mk8 (O := O) (n := n) h hn x1 (by omega) hE hvx hvy (by rw [wvx]; exact wx) (by rw [wvy]; exact wy)
      rw [em, yC_some]
      have wB := wc_mkB (a := rCd S r vx) (b := rCd S r vy) (by rw [cd_wc x1.2.2.1.2.1 (by omega) hE vx hvx, wvx]; exact wx) (by rw [cd_wc x1.2.2.1.2.1 (by omega) hE vy hvy, wvy]; exact wy)
      rw [cvx, cvy] at hM wB
      have es : rSb S0 r st fc i = mkB (rSb S0 r st fc x) (rSb S0 r st fc y) := sb_8 rOk (by omega) (by omega) (by omega) hy k ex ey
      refine fin S1 A1 v (by rw [es]; exact hM) ?_
      rw [wdn hM, wB, wd_n9 (by rw [k]; decide), k]; rfl
    · -- a choice
      obtain ⟨vx, hvx, evx, cvx, wvx⟩ := old x hx
      obtain ⟨vy, hvy, evy, cvy, wvy⟩ := old y hy
      obtain ⟨vz, hvz, evz, cvz, wvz⟩ := old z hz
      have x17 : x < refN 17 := by show x < 300; omega
      have y17 : y < refN 17 := by show y < 300; omega
      have z17 : z < refN 17 := by show z < 300; omega
      obtain ⟨t1, t2, t3⟩ := gt4 9 (by decide) (by decide) k
      rw [if_pos t1, if_neg t2, if_pos t3, if_neg (by rw [k]; decide), rA h (by decide), rA h (by decide), rA h (by decide), rl h (by decide) (by decide) i4, r4, ex, rl h (by decide) (by decide) x17, evx, rA h (by decide), rl h (by decide) (by decide) i5, r5, ey, if_pos (nI_pos' (by omega)), rA h (by decide), rA h (by decide), rl h (by decide) (by decide) i5, r5, ey, rl h (by decide) (by decide) y17, evy]
      unfold G_XModel_putIn_174
      rw [rA h (by decide), rl h (by decide) (by decide) i6, r6, ez, if_pos (nI_pos' (by omega)), rA h (by decide), rA h (by decide), rl h (by decide) (by decide) i6, r6, ez, rl h (by decide) (by decide) z17, evz]
      unfold G_XModel_putIn_198
      rw [rk h, k]
      have wyz : wd (S.1 r 3) (S.1 r 5) vy = wd (S.1 r 3) (S.1 r 5) vz := by rw [wvy, wvz]; exact we
      obtain ⟨v, A1, S1, em, hM⟩ := ext_mk9 (O := O) (n := n) h hn x1 (by omega) hE hvx hvy hvz (by rw [wvx]; exact wx) wyz
      rw [em, yC_some]
      have wC := wc_mkC (c := rCd S r vx) (a := rCd S r vy) (b := rCd S r vz) (by rw [cd_wc x1.2.2.1.2.1 (by omega) hE vy hvy, cd_wc x1.2.2.1.2.1 (by omega) hE vz hvz]; exact wyz)
      rw [cd_wc x1.2.2.1.2.1 (by omega) hE vy hvy, wvy] at wC
      rw [cvx, cvy, cvz] at hM wC
      have es : rSb S0 r st fc i = mkC (rSb S0 r st fc x) (rSb S0 r st fc y) (rSb S0 r st fc z) := sb_9 rOk (by omega) (by omega) hx hy hz k ex ey ez
      refine fin S1 A1 v (by rw [es]; exact hM) ?_
      rw [wdn hM, wC, wd_9 rOk (by omega) (by omega) k ey hy]
end PUTIN
