/-! WHICH CLAIM FAILS? -/
theorem nz0 {a : Nat} (ha : a < 2 ^ 31) (h : ¬ a = 0) : ¬ nI a = (0 : Int32) := fun q => h ((nI_eq (a := a) (b := 0) ha (by decide)).mp q)
theorem nz1 {a : Nat} (ha : a < 2 ^ 31) (h : ¬ a = 1) : ¬ nI a = (1 : Int32) := fun q => h ((nI_eq (a := a) (b := 1) ha (by decide)).mp q)
/-- a question: invariants, and claims that two codes are the same -/
def FailsV (I : Nat) (iv : Nat → Nat) (sn : Nat → Bool) (c1 c2 : Nat → Nat) (v : Nat → Nat) (e : Nat) : Prop := (∀ k, k < I → v (iv k) = 1) ∧ sn e = true ∧ ¬ v (c1 e) = v (c2 e)
/-- the reference holds this question -/
def RQ (r E A : Nat) (S0 : qS) (kv : Int32) (I : Nat) (iv : Nat → Nat) (sn : Nat → Bool) (c1 c2 : Nat → Nat) : Prop :=
  S0.1 r 9 0 = nI E ∧ S0.1 r 10 0 = nI I ∧ I ≤ 8 ∧ (∀ k, k < I → ∃ m, m < A ∧ S0.1 r 16 k = nI m ∧ dpN S0 r m ∧ rCd S0 r m = iv k ∧ wd (S0.1 r 3) (S0.1 r 5) m = false) ∧
  ((kv = -1 ∧ (∀ e, sn e = true ↔ e < E ∧ ¬ S0.1 r 15 e = 0) ∧ ∀ e, sn e = true → ∃ m m', m < A ∧ m' < A ∧ S0.1 r 19 e = nI m ∧ S0.1 r 20 e = nI m' ∧ dpN S0 r m ∧ dpN S0 r m' ∧ rCd S0 r m = c1 e ∧ rCd S0 r m' = c2 e ∧ wd (S0.1 r 3) (S0.1 r 5) m = wd (S0.1 r 3) (S0.1 r 5) m') ∨
   (∃ m, m < A ∧ kv = nI m ∧ dpN S0 r m ∧ rCd S0 r m = c1 16 ∧ wd (S0.1 r 3) (S0.1 r 5) m = false ∧ c2 16 = cT ∧ ∀ e, sn e = true ↔ e = 16))
section FAILING
variable {O : qOb9} {r n E A I : Nat} {S0 S : qS} {L : Nat → Nat} {kv : Int32} {iv c1 c2 : Nat → Nat} {sn : Nat → Bool}
theorem ref_failing_54 (h : Ref O r) (hE : E ≤ 16) (hX : Ext r S0 E A) (hL : LB L) (hF : rFr r S0 S (fun j => j = 22 ∨ j = 27)) (hV : ∀ m, m < A → dpN S0 r m → S.1 r 22 m = nI (val L (rCd S0 r m))) (h9 : S0.1 r 9 0 = nI E) (hsn : ∀ e, sn e = true ↔ e < E ∧ ¬ S0.1 r 15 e = 0) (hcl : ∀ e, sn e = true → ∃ m m', m < A ∧ m' < A ∧ S0.1 r 19 e = nI m ∧ S0.1 r 20 e = nI m' ∧ dpN S0 r m ∧ dpN S0 r m' ∧ rCd S0 r m = c1 e ∧ rCd S0 r m' = c2 e ∧ wd (S0.1 r 3) (S0.1 r 5) m = wd (S0.1 r 3) (S0.1 r 5) m') :
    ∀ (d e f : Nat), e + d = E → d < f → ∃ v, G_XModel_failing_54 O n f r (nI e) S = some (v, S) ∧ ((v = -1 ∧ ∀ e', e ≤ e' → ¬ (sn e' = true ∧ ¬ val L (c1 e') = val L (c2 e'))) ∨ ∃ e', e ≤ e' ∧ e' < E ∧ v = nI e' ∧ (sn e' = true ∧ ¬ val L (c1 e') = val L (c2 e')) ∧ ∀ e2, e ≤ e2 → e2 < e' → ¬ (sn e2 = true ∧ ¬ val L (c1 e2) = val L (c2 e2))) := by
  have hA := hX.2.1
  have vle := val_le (L := L) (B := 100) (by decide) hL.1
  intro d
  induction d with
  | zero =>
    intro e f ee hf
    obtain ⟨f, rfl⟩ : ∃ q, f = q + 1 := ⟨f - 1, by omega⟩
    rw [G_XModel_failing_54, rI h (by decide), hF.2 9 (by omega), h9, if_pos (nI_le (by omega) (by omega))]
    refine ⟨-1, rfl, Or.inl ⟨rfl, fun e' he' q => ?_⟩⟩
    have := ((hsn e').mp q.1).1
    omega
  | succ d ih =>
    intro e f ee hf
    obtain ⟨f, rfl⟩ : ∃ q, f = q + 1 := ⟨f - 1, by omega⟩
    have e15 : e < refN 15 := by show e < 16; omega
    have e19 : e < refN 19 := by show e < 16; omega
    have e20 : e < refN 20 := by show e < 16; omega
    have skip : ¬ (sn e = true ∧ ¬ val L (c1 e) = val L (c2 e)) → ∃ v, G_XModel_failing_98 O n (G_XModel_failing_54 O n f) r (nI e) S = some (v, S) ∧ ((v = -1 ∧ ∀ e', e ≤ e' → ¬ (sn e' = true ∧ ¬ val L (c1 e') = val L (c2 e'))) ∨ ∃ e', e ≤ e' ∧ e' < E ∧ v = nI e' ∧ (sn e' = true ∧ ¬ val L (c1 e') = val L (c2 e')) ∧ ∀ e2, e ≤ e2 → e2 < e' → ¬ (sn e2 = true ∧ ¬ val L (c1 e2) = val L (c2 e2))) := by
      intro hno
      obtain ⟨v, h1, h2⟩ := ih (e + 1) f (by omega) (by omega)
      refine ⟨v, ?_, ?_⟩
      · unfold G_XModel_failing_98
        rw [hB_eq, nI_1]
        exact h1
      · rcases h2 with ⟨h2, h3⟩ | ⟨e', h2, h2', h3, h4, h5⟩
        · refine Or.inl ⟨h2, fun e' he' => ?_⟩
          by_cases z : e' = e
          · rw [z]; exact hno
          · exact h3 e' (by omega)
        · refine Or.inr ⟨e', by omega, h2', h3, h4, fun e2 h6 h7 => ?_⟩
          by_cases z : e2 = e
          · rw [z]; exact hno
          · exact h5 e2 (by omega) h7
    rw [G_XModel_failing_54, rI h (by decide), hF.2 9 (by omega), h9, if_neg (nI_ge (by omega) (by omega)), rA h (by decide), rl h (by decide) (by decide) e15, hF.2 15 (by omega)]
    by_cases s0 : S0.1 r 15 e = 0
    · rw [if_pos s0]
      exact skip (fun q => ((hsn e).mp q.1).2 s0)
    · have hs := (hsn e).mpr ⟨by omega, s0⟩
      obtain ⟨m, m', hm, hm', em, em', dm, dm', k1, k2, _⟩ := hcl e hs
      have m22 : m < refN 22 := by show m < 6400; omega
      have m22' : m' < refN 22 := by show m' < 6400; omega
      rw [if_neg s0, rA h (by decide), rA h (by decide), rl h (by decide) (by decide) e19, hF.2 19 (by omega), em, rl h (by decide) (by decide) m22, hV m hm dm, k1, rA h (by decide), rA h (by decide), rl h (by decide) (by decide) e20, hF.2 20 (by omega), em', rl h (by decide) (by decide) m22', hV m' hm' dm', k2]
      have b1 := vle (c1 e)
      have b2 := vle (c2 e)
      by_cases z : val L (c1 e) = val L (c2 e)
      · rw [if_pos (by rw [z])]
        exact skip (fun q => q.2 z)
      · rw [if_neg (fun w => z ((nI_eq (by omega) (by omega)).mp w))]
        exact ⟨nI e, rfl, Or.inr ⟨e, Nat.le_refl e, by omega, rfl, ⟨hs, z⟩, fun e2 h6 h7 => by omega⟩⟩
theorem ref_failing (h : Ref O r) (hn : 7000 ≤ n) (hE : E ≤ 16) (hX : Ext r S0 E A) (hM : MClo r A S0) (hL : LB L) (hF : rFr r S0 S (fun j => j = 22 ∨ j = 27)) (hV : ∀ m, m < A → dpN S0 r m → S.1 r 22 m = nI (val L (rCd S0 r m))) (hQ : RQ r E A S0 kv I iv sn c1 c2) :
    ∃ v, G_XModel_failing O n r kv S = some (v, S) ∧ ((v = -1 ∧ ∀ e, ¬ FailsV I iv sn c1 c2 (val L) e) ∨ ∃ e, e ≤ 16 ∧ v = nI e ∧ FailsV I iv sn c1 c2 (val L) e ∧ ∀ e', e' < e → ¬ FailsV I iv sn c1 c2 (val L) e') := by
  have hA := hX.2.1
  have rOk := hX.2.2.1.2.1
  obtain ⟨h9, h10, hI8, hinv, hcl⟩ := hQ
  have hDC := DC_clo hX hE hM
  have hok := DC_ok hX hE
  have v01 := val_01 (L := L) hDC hok (fun c _ hk => hL.2 c hk)
  have loop : ∀ (d k f : Nat), k + d = I → d < f → (∀ k', k' < k → val L (iv k') = 1) → ∃ v, G_XModel_failing_2 O n f r kv (nI k) S = some (v, S) ∧ ((v = -1 ∧ ∀ e, ¬ FailsV I iv sn c1 c2 (val L) e) ∨ ∃ e, e ≤ 16 ∧ v = nI e ∧ FailsV I iv sn c1 c2 (val L) e ∧ ∀ e', e' < e → ¬ FailsV I iv sn c1 c2 (val L) e') := by
    intro d
    induction d with
    | zero =>
      intro k f e hf hk
      obtain ⟨f, rfl⟩ : ∃ q, f = q + 1 := ⟨f - 1, by omega⟩
      have e0 : k = I := by omega
      subst e0
      rw [G_XModel_failing_2, rI h (by decide), hF.2 10 (by omega), h10, if_pos (nI_le (by omega) (by omega))]
      rcases hcl with ⟨ek, hsn, hc⟩ | ⟨m, hm, ek, dm, k1, wm, k2, hsn⟩
      · rw [ek, if_pos (by decide), ← nI_0]
        obtain ⟨v, h1, h2⟩ := ref_failing_54 (O := O) (n := n) h hE hX hL hF hV h9 hsn hc E 0 n (by omega) (by omega)
        refine ⟨v, h1, ?_⟩
        rcases h2 with ⟨h2, h3⟩ | ⟨e', h2, h2', h3, h4, h5⟩
        · exact Or.inl ⟨h2, fun e' q => h3 e' (Nat.zero_le e') q.2⟩
        · exact Or.inr ⟨e', by omega, h3, ⟨hk, h4⟩, fun e2 h6 q => h5 e2 (Nat.zero_le e2) h6 q.2⟩
      · have m22 : m < refN 22 := by show m < 6400; omega
        have b1 : val L (c1 16) ≤ 1 := v01 _ ⟨m, hm, dm, k1⟩ (by rw [← k1, cd_wc rOk (by omega) hE m hm]; exact wm)
        rw [ek, if_neg (nI_pos (by omega)), rA h (by decide), rl h (by decide) (by decide) m22, hV m hm dm, k1]
        by_cases z : val L (c1 16) = 0
        · rw [z, if_pos nI_0]
          refine ⟨16, rfl, Or.inr ⟨16, Nat.le_refl _, rfl, ⟨hk, (hsn 16).mpr rfl, ?_⟩, fun e' he' q => ?_⟩⟩
          · rw [z, k2, val_T]; decide
          · have := (hsn e').mp q.2.1; omega
        · rw [if_neg (nz0 (by omega) z)]
          refine ⟨-1, rfl, Or.inl ⟨rfl, fun e' q => ?_⟩⟩
          have := (hsn e').mp q.2.1
          subst this
          exact q.2.2 (by rw [k2, val_T]; omega)
    | succ d ih =>
      intro k f e hf hk
      obtain ⟨f, rfl⟩ : ∃ q, f = q + 1 := ⟨f - 1, by omega⟩
      obtain ⟨m, hm, em, dm, cm, wm⟩ := hinv k (by omega)
      have k16 : k < refN 16 := by show k < 8; omega
      have m22 : m < refN 22 := by show m < 6400; omega
      have b1 : val L (iv k) ≤ 1 := v01 _ ⟨m, hm, dm, cm⟩ (by rw [← cm, cd_wc rOk (by omega) hE m hm]; exact wm)
      rw [G_XModel_failing_2, rI h (by decide), hF.2 10 (by omega), h10, if_neg (nI_ge (by omega) (by omega)), rA h (by decide), rA h (by decide), rl h (by decide) (by decide) k16, hF.2 16 (by omega), em, rl h (by decide) (by decide) m22, hV m hm dm, cm]
      by_cases z : val L (iv k) = 0
      · rw [z, if_pos nI_0]
        refine ⟨-1, rfl, Or.inl ⟨rfl, fun e' q => ?_⟩⟩
        have := q.1 k (by omega)
        omega
      · rw [if_neg (nz0 (by omega) z), hB_eq, nI_1]
        refine ih (k + 1) f (by omega) (by omega) (fun k' hk' => ?_)
        by_cases w : k' = k
        · rw [w]; omega
        · exact hk k' (by omega)
  unfold G_XModel_failing
  rw [← nI_0]
  exact loop I 0 n (by omega) (by omega) (fun k' hk' => absurd hk' (Nat.not_lt_zero k'))
end FAILING
