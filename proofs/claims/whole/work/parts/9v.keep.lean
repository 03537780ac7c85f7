/-! THE REFERENCE KEEPS A STATE -/
/-- the elements' nodes, in all the store -/
def EL (r E A : Nat) (S0 : qS) : Prop := (∀ e, e < E → ∃ m, m < A ∧ S0.1 r 11 e = nI m ∧ (S0.1 r 3 m = 3 ∨ S0.1 r 3 m = 4) ∧ S0.1 r 4 m = nI e) ∧ ∀ m, m < A → S0.1 r 3 m = 3 ∨ S0.1 r 3 m = 4 → ∃ e, e < E ∧ S0.1 r 4 m = nI e ∧ S0.1 r 11 e = nI m
def J32 (j : Nat) : Prop := j = 32
section KEEP
variable {O : qOb9} {r n E A nw na nt : Nat} {S0 : qS} {τ w : Nat → Nat} {l1 : Int32}
/-- what is kept of an element -/
noncomputable def kpt (r A K : Nat) (S0 : qS) (τ w : Nat → Nat) (m : Nat) : Int32 := if S0.1 r 21 m = 0 then 0 else nI (LU r S0 K τ w (rCd S0 r m))
theorem ref_keep_50 (h : Ref O r) (hE : E ≤ 16) (hX : Ext r S0 E A) (hR : RL r A nw na nt S0) (hEL : EL r E A S0) {S1 : qS} (hF1 : rFr r S0 S1 Jv) (hfa : ∀ i, i < nw → S1.1 r 27 i = nI (w i)) :
    ∀ (d k f : Nat) (S : qS), k + d = nw → d < f → rFr r S1 S J32 → (∀ e m, e < E → m < A → S0.1 r 11 e = nI m → (S0.1 r 21 m = 0 ∨ S0.1 r 3 m = 4 ∨ ∃ j, j < k ∧ S0.1 r 26 j = nI m) → S.1 r 32 e = kpt r A (nw + na) S0 τ w m) →
      ∃ S' f', rFr r S1 S' J32 ∧ (∀ e m, e < E → m < A → S0.1 r 11 e = nI m → S'.1 r 32 e = kpt r A (nw + na) S0 τ w m) ∧ G_XModel_keepState_50 O n f r l1 (nI k) S = G_XModel_keepState_50 O n (f' + 1) r l1 (nI nw) S' := by
  have hA := hX.2.1
  have hR' := hR
  obtain ⟨r23, r24, r25, r7, r6, rW, rWa, rWo, rT, rTa, rTo, rWi⟩ := hR
  intro d
  induction d with
  | zero =>
    intro k f S e hf hF hw
    obtain ⟨f, rfl⟩ : ∃ q, f = q + 1 := ⟨f - 1, by omega⟩
    have e0 : k = nw := by omega
    subst e0
    refine ⟨S, f, hF, fun e m he hm em => hw e m he hm em ?_, rfl⟩
    by_cases d0 : S0.1 r 21 m = 0
    · exact Or.inl d0
    · obtain ⟨m', hm', em', hk, ha⟩ := hEL.1 e he
      have := (nI_eq (by omega) (by omega)).mp (em.symm.trans em')
      subst this
      rcases hk with hk | hk
      · obtain ⟨j, hj, ej⟩ := (rWa m hm d0).1 hk
        exact Or.inr (Or.inr ⟨j, hj, ej⟩)
      · exact Or.inr (Or.inl hk)
  | succ d ih =>
    intro k f S e hf hF hw
    obtain ⟨f, rfl⟩ : ∃ q, f = q + 1 := ⟨f - 1, by omega⟩
    obtain ⟨m, hm, em, dm, k3, _⟩ := rW k (by omega)
    have km := k3 (by omega)
    obtain ⟨a, ha, ea, e11⟩ := hEL.2 m hm (Or.inl km)
    have k26 : k < refN 26 := by show k < 7; omega
    have k27 : k < refN 27 := by show k < 7; omega
    have m4 : m < refN 4 := by show m < 6400; omega
    have a32 : a < refN 32 := by show a < 16; omega
    have s : ∀ j, ¬ Jv j → j ≠ 32 → S.1 r j = S0.1 r j := fun j h1 h2 => by rw [hF.2 j h2, hF1.2 j h1]
    have e23 : S.1 r 23 0 = nI nw := by rw [s 23 (by omega) (by decide)]; exact r23
    have e27 : S.1 r 27 k = nI (w k) := by rw [hF.2 27 (by unfold J32; omega)]; exact hfa k (by omega)
    have lu := (LU_w (τ := τ) (u := w) hE hX hR' (show k < nw + na by omega)).1
    have t1 : tN (S0.1 r 26 k) = m := by rw [em]; exact nI_clamp (by omega)
    unfold wlc at lu
    rw [t1] at lu
    rw [G_XModel_keepState_50, rI h (by decide), e23, if_neg (nI_ge (by omega) (by omega)), rA h (by decide), rA h (by decide), rA h (by decide), rl h (by decide) (by decide) k26, s 26 (by omega) (by decide), em, rl h (by decide) (by decide) m4, s 4 (by omega) (by decide), ea, rA h (by decide), rl h (by decide) (by decide) k27, e27, rw' h (by decide) (by decide) a32, hB_eq, nI_1]
    refine ih (k + 1) f _ (by omega) (by omega) (hF.up rfl) (fun e' m' he' hm' em' hc => ?_)
    by_cases z : e' = a
    · subst z
      have := (nI_eq (by omega) (by omega)).mp (em'.symm.trans e11)
      subst this
      rw [up3_v]
      unfold kpt
      rw [if_neg dm, lu]
    · rw [up3_o z]
      refine hw e' m' he' hm' em' ?_
      rcases hc with q | q | ⟨j, hj, ej⟩
      · exact Or.inl q
      · exact Or.inr (Or.inl q)
      · refine Or.inr (Or.inr ⟨j, ?_, ej⟩)
        by_cases y : j = k
        · exfalso
          subst y
          have := (nI_eq (by omega) (by omega)).mp (ej.symm.trans em)
          subst this
          obtain ⟨m2, hm2, em2, _, ha2⟩ := hEL.1 e' he'
          have h3 := (nI_eq (by omega) (by omega)).mp (em'.symm.trans em2)
          rw [← h3, ea] at ha2
          exact z ((nI_eq (by omega) (by omega)).mp ha2).symm
        · omega
theorem ref_keepState (h : Ref O r) (hn : 7000 ≤ n) (hE : E ≤ 16) (hX : Ext r S0 E A) (h9 : S0.1 r 9 0 = nI E) (hR : RL r A nw na nt S0) (hEL : EL r E A S0) {S1 : qS} (hF1 : rFr r S0 S1 Jv) (hfa : ∀ i, i < nw → S1.1 r 27 i = nI (w i)) (hT : VT r A S0 S1 τ) :
    ∃ S', G_XModel_keepState O n r l1 S1 = some ((), S') ∧ rFr r S0 S' (fun j => j = 22 ∨ j = 27 ∨ j = 31 ∨ j = 32 ∨ j = 33 ∨ j = 34 ∨ j = 35) ∧ S'.1 r 31 0 = 1 ∧ (∀ e m, e < E → m < A → S0.1 r 11 e = nI m → S'.1 r 32 e = kpt r A (nw + na) S0 τ w m) ∧ S'.1 r 33 0 = (if S0.1 r 21 2 = 0 then 0 else nI (τ cX)) ∧ S'.1 r 34 0 = l1 ∧ S'.1 r 35 0 = nI E := by
  have hA := hX.2.1
  have h3 := hX.2.2.1.1
  have rOk := hX.2.2.1.2.1
  have hR' := hR
  obtain ⟨r23, r24, r25, r7, r6, rW, rWa, rWo, rT, rTa, rTo, rWi⟩ := hR
  have kT : ∀ m, m < A → S0.1 r 3 m = 4 → p1 (rCd S0 r m) = 4 := fun m hm k => by
    obtain ⟨_, e, _, _, _, ec⟩ := row_4 rOk (by omega) hE hm k
    rw [show rCd S0 r m = _ from ec, p1_pr]
  have loop : ∀ (d i f : Nat) (S : qS), i + d = E → d < f → rFr r S1 S J32 → (∀ e m, e < i → m < A → S0.1 r 11 e = nI m → (S0.1 r 21 m = 0 ∨ S0.1 r 3 m = 4) → S.1 r 32 e = kpt r A (nw + na) S0 τ w m) → ∃ S' , rFr r S1 S' J32 ∧ (∀ e m, e < E → m < A → S0.1 r 11 e = nI m → (S0.1 r 21 m = 0 ∨ S0.1 r 3 m = 4) → S'.1 r 32 e = kpt r A (nw + na) S0 τ w m) ∧ G_XModel_keepState_2 O n f r l1 (nI i) S = G_XModel_keepState_50 O n n r l1 0 S' := by
    intro d
    induction d with
    | zero =>
      intro i f S e hf hF hw
      obtain ⟨f, rfl⟩ : ∃ q, f = q + 1 := ⟨f - 1, by omega⟩
      have e0 : i = E := by omega
      subst e0
      refine ⟨S, hF, hw, ?_⟩
      rw [G_XModel_keepState_2, rI h (by decide), hF.2 9 (by unfold J32; omega), hF1.2 9 (by omega), h9, if_pos (nI_le (by omega) (by omega))]
    | succ d ih =>
      intro i f S e hf hF hw
      obtain ⟨f, rfl⟩ : ∃ q, f = q + 1 := ⟨f - 1, by omega⟩
      obtain ⟨m, hm, em, hk, ha⟩ := hEL.1 i (by omega)
      have i11 : i < refN 11 := by show i < 16; omega
      have i32 : i < refN 32 := by show i < 16; omega
      have m21 : m < refN 21 := by show m < 6400; omega
      have m22 : m < refN 22 := by show m < 6400; omega
      have s : ∀ j, ¬ Jv j → j ≠ 32 → S.1 r j = S0.1 r j := fun j h1 h2 => by rw [hF.2 j h2, hF1.2 j h1]
      have fin : ∀ v : Int32, (S0.1 r 21 m = 0 ∨ S0.1 r 3 m = 4 → v = kpt r A (nw + na) S0 τ w m) → ∃ S', rFr r S1 S' J32 ∧ (∀ e m, e < E → m < A → S0.1 r 11 e = nI m → (S0.1 r 21 m = 0 ∨ S0.1 r 3 m = 4) → S'.1 r 32 e = kpt r A (nw + na) S0 τ w m) ∧ G_XModel_keepState_41 O n (G_XModel_keepState_2 O n f) r l1 (nI i) (r, 32) (nI i) v S = G_XModel_keepState_50 O n n r l1 0 S' := by
        intro v hv
        unfold G_XModel_keepState_41
        rw [rw' h (by decide) (by decide) i32, hB_eq, nI_1]
        refine ih (i + 1) f _ (by omega) (by omega) (hF.up rfl) (fun e' m' he' hm' em' hc => ?_)
        by_cases z : e' = i
        · subst z
          have := (nI_eq (by omega) (by omega)).mp (em'.symm.trans em)
          subst this
          rw [up3_v]; exact hv hc
        · rw [up3_o z]; exact hw e' m' (by omega) hm' em' hc
      rw [G_XModel_keepState_2, rI h (by decide), s 9 (by omega) (by decide), h9, if_neg (nI_ge (by omega) (by omega)), rA h (by decide), rl h (by decide) (by decide) i11, s 11 (by omega) (by decide), em, rA h (by decide), rA h (by decide), rl h (by decide) (by decide) m21, s 21 (by omega) (by decide)]
      by_cases d0 : S0.1 r 21 m = 0
      · rw [if_pos d0]
        refine fin 0 (fun _ => ?_)
        unfold kpt; rw [if_pos d0]
      · rw [if_neg d0, rA h (by decide), rl h (by decide) (by decide) m22, hF.2 22 (by unfold J32; omega)]
        refine fin _ (fun hc => ?_)
        have k4 := hc.resolve_left d0
        have q4 := kT m hm k4
        unfold kpt LU
        rw [if_neg d0, if_neg (by omega)]
        exact hT m hm d0 (Or.inr q4)
  obtain ⟨S2, f2, w2, e2⟩ := loop E 0 n S1 (by omega) (by omega) rFr.refl (fun e m he => absurd he (Nat.not_lt_zero e))
  obtain ⟨S3, f', f3, w3, e3⟩ := ref_keep_50 (O := O) (n := n) (l1 := l1) h hE hX hR' hEL hF1 hfa nw 0 n S2 (by omega) (by omega) f2 (fun e m he hm em hc => by
    rcases hc with q | q | ⟨j, hj, _⟩
    · exact w2 e m he hm em (Or.inl q)
    · exact w2 e m he hm em (Or.inr q)
    · omega)
  rw [nI_0] at e2 e3
  have s3 : ∀ j, ¬ Jv j → j ≠ 32 → S3.1 r j = S0.1 r j := fun j h1 h2 => by rw [f3.2 j h2, hF1.2 j h1]
  have two21 : ∀ k : Int32 → Option (Unit × qS), hl 1 O S3 (r, 21) 2 k = k (S0.1 r 21 2) := fun k => by
    have := rl (S := S3) (m := 2) (k := k) (d := 1) h (j := 21) (by decide) (by decide) (show 2 < refN 21 by decide)
    rw [s3 21 (by omega) (by decide)] at this
    exact this
  have two22 : ∀ k : Int32 → Option (Unit × qS), hl 0 O S3 (r, 22) 2 k = k (S1.1 r 22 2) := fun k => by
    have := rl (S := S3) (m := 2) (k := k) (d := 0) h (j := 22) (by decide) (by decide) (show 2 < refN 22 by decide)
    rw [f3.2 22 (by unfold J32; omega)] at this
    exact this
  have e23 : S3.1 r 23 0 = nI nw := by rw [s3 23 (by omega) (by decide)]; exact r23
  have c2 : rCd S0 r 2 = cX := (cd_0 hX.2.2.1 (by omega) hE).2.2
  have fin : ∀ v : Int32, v = (if S0.1 r 21 2 = 0 then 0 else nI (τ cX)) → ∃ S', G_XModel_keepState_106 O n r l1 r v S3 = some ((), S') ∧ rFr r S0 S' (fun j => j = 22 ∨ j = 27 ∨ j = 31 ∨ j = 32 ∨ j = 33 ∨ j = 34 ∨ j = 35) ∧ S'.1 r 31 0 = 1 ∧ (∀ e m, e < E → m < A → S0.1 r 11 e = nI m → S'.1 r 32 e = kpt r A (nw + na) S0 τ w m) ∧ S'.1 r 33 0 = (if S0.1 r 21 2 = 0 then 0 else nI (τ cX)) ∧ S'.1 r 34 0 = l1 ∧ S'.1 r 35 0 = nI E := by
    intro v hv
    unfold G_XModel_keepState_106
    have fr0 : rFr r S0 S3 (fun j => j = 22 ∨ j = 27 ∨ j = 31 ∨ j = 32 ∨ j = 33 ∨ j = 34 ∨ j = 35) := ⟨hF1.1.trans f3.1, fun j hj => s3 j (by omega) (by omega)⟩
    rw [rP h (by decide), rP h (by decide), rI h (by decide), up3_f (by decide), up3_f (by decide), s3 9 (by omega) (by decide), h9, rP h (by decide), rP h (by decide)]
    refine ⟨_, rfl, (((fr0.up (by omega)).up (by omega)).up (by omega)).up (by omega), up3_v, fun e m he hm em => ?_, ?_, ?_, ?_⟩
    · rw [up3_f (by decide), up3_f (by decide), up3_f (by decide), up3_f (by decide)]; exact w3 e m he hm em
    · rw [up3_f (by decide), up3_f (by decide), up3_f (by decide), up3_v, hv]
    · rw [up3_f (by decide), up3_f (by decide), up3_v]
    · rw [up3_f (by decide), up3_v]
  have e50 : ∃ S', G_XModel_keepState_50 O n (f' + 1) r l1 (nI nw) S3 = some ((), S') ∧ rFr r S0 S' (fun j => j = 22 ∨ j = 27 ∨ j = 31 ∨ j = 32 ∨ j = 33 ∨ j = 34 ∨ j = 35) ∧ S'.1 r 31 0 = 1 ∧ (∀ e m, e < E → m < A → S0.1 r 11 e = nI m → S'.1 r 32 e = kpt r A (nw + na) S0 τ w m) ∧ S'.1 r 33 0 = (if S0.1 r 21 2 = 0 then 0 else nI (τ cX)) ∧ S'.1 r 34 0 = l1 ∧ S'.1 r 35 0 = nI E := by
    rw [G_XModel_keepState_50, rI h (by decide), e23, if_pos (nI_le (by omega) (by omega)), rA h (by decide), two21]
    by_cases d2 : S0.1 r 21 2 = 0
    · have q := fin 0 (by rw [if_pos d2])
      rw [if_pos d2]; exact q
    · have q := fin (S1.1 r 22 2) (by
        rw [if_neg d2, hT 2 (by omega) d2 (Or.inl (by rw [c2, p1_pr])), c2])
      rw [if_neg d2, rA h (by decide), two22]; exact q
  obtain ⟨S', e5, rest⟩ := e50
  refine ⟨S', ?_, rest⟩
  unfold G_XModel_keepState
  rw [e2, e3]
  exact e5
end KEEP
