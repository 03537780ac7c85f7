section GATHER2
variable {O : qOb9} {r n A : Nat} {S0 : qS}
theorem cnt_or {P Q R : Nat → Bool} (h : ∀ m, R m = (P m || Q m)) (hd : ∀ m, ¬ (P m = true ∧ Q m = true)) : ∀ A, cnt R A = cnt P A + cnt Q A := by
  intro A
  induction A with
  | zero => rfl
  | succ A ih =>
    rw [cnt_s, cnt_s, cnt_s, ih, h A]
    have := hd A
    cases hp : P A <;> cases hq : Q A
    · simp
    · simp; omega
    · simp; omega
    · exact absurd ⟨hp, hq⟩ this
theorem gP_iff {k : Int32} {κ D : Nat → Int32} {m : Nat} : gP k κ D m = true ↔ ¬ D m = 0 ∧ κ m = k := by
  unfold gP
  rw [Bool.and_eq_true, Bool.not_eq_true', decide_eq_false_iff_not, decide_eq_true_iff]
theorem gW_cnt (κ D : Nat → Int32) (A : Nat) : cnt (gW κ D) A = cnt (gP 3 κ D) A + cnt (gP 5 κ D) A := by
  refine cnt_or (fun m => ?_) (fun m q => ?_) A
  · unfold gW gP
    cases decide (D m = 0) <;> cases decide (κ m = 3) <;> rfl
  · have h1 := (gP_iff.mp q.1).2
    have h2 := (gP_iff.mp q.2).2
    rw [h1] at h2
    exact absurd h2 (by decide)
theorem gT_cnt (κ D : Nat → Int32) (A : Nat) : cnt (gT κ D) A = cnt (gP 4 κ D) A + cnt (gP 2 κ D) A := by
  refine cnt_or (fun m => ?_) (fun m q => ?_) A
  · unfold gT gP
    cases decide (D m = 0) <;> cases decide (κ m = 4) <;> rfl
  · have h1 := (gP_iff.mp q.1).2
    have h2 := (gP_iff.mp q.2).2
    rw [h1] at h2
    exact absurd h2 (by decide)
theorem cnt_one {P : Nat → Bool} {x : Nat} (h : ∀ m, P m = true → m = x) : ∀ {A : Nat}, x < A → cnt P A = if P x = true then 1 else 0 := by
  have z : ∀ A, A ≤ x → cnt P A = 0 := by
    intro A
    induction A with
    | zero => intro _; rfl
    | succ A ih =>
      intro hA
      rw [cnt_s, ih (by omega), if_neg (fun q => by have := h A q; omega)]
  intro A
  induction A with
  | zero => intro h; omega
  | succ A ih =>
    intro hA
    rw [cnt_s]
    by_cases e : x = A
    · subst e; rw [z x (Nat.le_refl x)]; omega
    · rw [ih (by omega), if_neg (fun q => e (h A q).symm)]; omega
/-- the state while words and truths are listed -/
def GI (r : Nat) (S0 S : qS) (i : Nat) : Prop := rFr r S0 S J167 ∧ S.1 r 23 0 = nI (cnt (gP 3 (S0.1 r 3) (S0.1 r 21)) i) ∧ S.1 r 25 0 = nI (cnt (gP 4 (S0.1 r 3) (S0.1 r 21)) i) ∧ Lists (S.1 r 26) (gP 3 (S0.1 r 3) (S0.1 r 21)) 0 i ∧ Lists (S.1 r 28) (gP 4 (S0.1 r 3) (S0.1 r 21)) 0 i
theorem ref_gather_167 (h : Ref O r) (hA : A ≤ 6400) (hA3 : 3 ≤ A) (h2 : S0.1 r 2 0 = nI A) (b3 : cnt (gP 3 (S0.1 r 3) (S0.1 r 21)) A ≤ 7) (b4 : cnt (gP 4 (S0.1 r 3) (S0.1 r 21)) A + (if S0.1 r 21 2 = 0 then 0 else 1) ≤ 6) : ∀ (d i f : Nat) (S : qS), i + d = A → d < f → GI r S0 S i →
    ∃ S1, rFr r S0 S1 J167 ∧ S1.1 r 23 0 = nI (cnt (gP 3 (S0.1 r 3) (S0.1 r 21)) A) ∧ Lists (S1.1 r 26) (gP 3 (S0.1 r 3) (S0.1 r 21)) 0 A ∧ S1.1 r 25 0 = nI (cnt (gP 4 (S0.1 r 3) (S0.1 r 21)) A + (if S0.1 r 21 2 = 0 then 0 else 1)) ∧ Lists (S1.1 r 28) (gP 4 (S0.1 r 3) (S0.1 r 21)) 0 A ∧ (¬ S0.1 r 21 2 = 0 → S1.1 r 28 (cnt (gP 4 (S0.1 r 3) (S0.1 r 21)) A) = nI 2) ∧
      G_XModel_gather_167 O n f r (nI i) S = G_XModel_gather_288 O n r S1 := by
  intro d
  induction d with
  | zero =>
    intro i f S e hf hG
    obtain ⟨f, rfl⟩ : ∃ q, f = q + 1 := ⟨f - 1, by omega⟩
    have e0 : i = A := by omega
    subst e0
    obtain ⟨hF, g1, g2, g3, g4⟩ := hG
    have i21 : 2 < refN 21 := by decide
    rw [G_XModel_gather_167, rI h (by decide), hF.2 2 (by unfold J167; omega), h2, if_pos (nI_le (by omega) (by omega)), rA h (by decide)]
    have e2 : ∀ k : Int32 → Option (Unit × qS), hl 1 O S (r, 21) 2 k = k (S0.1 r 21 2) := fun k => by
      have := rl (S := S) (m := 2) (k := k) (d := 1) h (j := 21) (by decide) (by decide) i21
      rw [hF.2 21 (by unfold J167; omega)] at this
      exact this
    rw [e2]
    by_cases d2 : S0.1 r 21 2 = 0
    · refine ⟨S, hF, g1, g3, ?_, g4, fun q => absurd d2 q, if_pos d2⟩
      rw [if_pos d2]; exact g2
    · rw [if_neg d2] at b4
      have i28 : cnt (gP 4 (S0.1 r 3) (S0.1 r 21)) i < refN 28 := by show _ < 6; omega
      rw [rA h (by decide), rI h (by decide), g2, rw' h (by decide) (by decide) i28, rI h (by decide), up3_f (by decide), g2, rP h (by decide), nI_1]
      refine ⟨_, (hF.up (i := cnt (gP 4 (S0.1 r 3) (S0.1 r 21)) i) (v := 2) (Or.inr (Or.inr (Or.inr rfl)))).up (i := 0) (v := nI (cnt (gP 4 (S0.1 r 3) (S0.1 r 21)) i + 1)) (Or.inr (Or.inl rfl)), ?_, ?_, ?_, ?_, fun _ => ?_, if_neg d2⟩
      · rw [up3_f (by decide), up3_f (by decide)]; exact g1
      · rw [up3_f (by decide), up3_f (by decide)]; exact g3
      · rw [if_neg d2, up3_v]
      · rw [up3_f (by decide)]
        intro m hm hp
        have := cnt_lt hm hp
        rw [up3_o (by omega)]
        exact g4 m hm hp
      · rw [up3_f (by decide), up3_v]; rfl
  | succ d ih =>
    intro i f S e hf hG
    obtain ⟨f, rfl⟩ : ∃ q, f = q + 1 := ⟨f - 1, by omega⟩
    obtain ⟨hF, g1, g2, g3, g4⟩ := hG
    have i0 : i < 6400 := by omega
    have i3 : i < refN 3 := i0
    have i21 : i < refN 21 := i0
    -- the second half: truths
    have half : ∀ T : qS, rFr r S0 T J167 → T.1 r 23 0 = nI (cnt (gP 3 (S0.1 r 3) (S0.1 r 21)) (i + 1)) → T.1 r 25 0 = nI (cnt (gP 4 (S0.1 r 3) (S0.1 r 21)) i) → Lists (T.1 r 26) (gP 3 (S0.1 r 3) (S0.1 r 21)) 0 (i + 1) → Lists (T.1 r 28) (gP 4 (S0.1 r 3) (S0.1 r 21)) 0 i →
        ∃ T', GI r S0 T' (i + 1) ∧ G_XModel_gather_214 O n (G_XModel_gather_167 O n f) r (nI i) T = G_XModel_gather_167 O n f r (nI (i + 1)) T' := by
      intro T tF t1 t2 t3 t4
      have e3 := tF.2 3 (by unfold J167; omega)
      have e21 := tF.2 21 (by unfold J167; omega)
      have skip : gP 4 (S0.1 r 3) (S0.1 r 21) i = false → GI r S0 T (i + 1) := fun q => ⟨tF, t1, by rw [cnt_s, q, if_neg (by decide)]; exact t2, t3, Lists_skip t4 q⟩
      have g253 : G_XModel_gather_253 O n (G_XModel_gather_167 O n f) r (nI i) T = G_XModel_gather_167 O n f r (nI (i + 1)) T := by
        unfold G_XModel_gather_253
        rw [hB_eq, nI_1]
      unfold G_XModel_gather_214
      rw [rA h (by decide), rl h (by decide) (by decide) i21, e21]
      by_cases d0 : S0.1 r 21 i = 0
      · rw [if_pos d0]
        exact ⟨T, skip (by unfold gP; rw [decide_eq_true d0]; rfl), g253⟩
      · rw [if_neg d0, rA h (by decide), rl h (by decide) (by decide) i3, e3]
        by_cases k4 : S0.1 r 3 i = 4
        · have hp : gP 4 (S0.1 r 3) (S0.1 r 21) i = true := gP_iff.mpr ⟨d0, k4⟩
          have lt := cnt_lt (show i < A by omega) hp
          have i28 : cnt (gP 4 (S0.1 r 3) (S0.1 r 21)) i < refN 28 := by show _ < 6; omega
          rw [if_pos k4, rA h (by decide), rI h (by decide), t2, rw' h (by decide) (by decide) i28, rI h (by decide), up3_f (by decide), t2, rP h (by decide), nI_1]
          refine ⟨_, ⟨(tF.up (i := cnt (gP 4 (S0.1 r 3) (S0.1 r 21)) i) (v := nI i) (Or.inr (Or.inr (Or.inr rfl)))).up (i := 0) (v := nI (cnt (gP 4 (S0.1 r 3) (S0.1 r 21)) i + 1)) (Or.inr (Or.inl rfl)), ?_, ?_, ?_, ?_⟩, ?_⟩
          rotate_right
          · unfold G_XModel_gather_253
            rw [hB_eq, nI_1]
          · rw [up3_f (by decide), up3_f (by decide)]; exact t1
          · rw [up3_v, cnt_s, if_pos hp]
          · rw [up3_f (by decide), up3_f (by decide)]; exact t3
          · rw [up3_f (by decide)]
            have := Lists_put t4 hp
            intro m hm hpm
            have q := this m hm hpm
            show up3 T.1 r 28 _ (nI i) r 28 (0 + cnt _ m) = nI m
            rw [up3_at]
            rw [Nat.zero_add] at q ⊢
            by_cases z : cnt (gP 4 (S0.1 r 3) (S0.1 r 21)) m = cnt (gP 4 (S0.1 r 3) (S0.1 r 21)) i
            · rw [if_pos ⟨rfl, z⟩]
              simp only [Nat.zero_add] at q
              rw [if_pos z] at q; exact q
            · rw [if_neg (fun w => z w.2)]
              simp only [Nat.zero_add] at q
              rw [if_neg z] at q; exact q
        · rw [if_neg k4]
          exact ⟨T, skip (by unfold gP; rw [decide_eq_false k4, Bool.and_false]), g253⟩
    have e3 := hF.2 3 (by unfold J167; omega)
    have e21 := hF.2 21 (by unfold J167; omega)
    have close : ∀ T : qS, rFr r S0 T J167 → T.1 r 23 0 = nI (cnt (gP 3 (S0.1 r 3) (S0.1 r 21)) (i + 1)) → T.1 r 25 0 = nI (cnt (gP 4 (S0.1 r 3) (S0.1 r 21)) i) → Lists (T.1 r 26) (gP 3 (S0.1 r 3) (S0.1 r 21)) 0 (i + 1) → Lists (T.1 r 28) (gP 4 (S0.1 r 3) (S0.1 r 21)) 0 i →
        ∃ S1, rFr r S0 S1 J167 ∧ S1.1 r 23 0 = nI (cnt (gP 3 (S0.1 r 3) (S0.1 r 21)) A) ∧ Lists (S1.1 r 26) (gP 3 (S0.1 r 3) (S0.1 r 21)) 0 A ∧ S1.1 r 25 0 = nI (cnt (gP 4 (S0.1 r 3) (S0.1 r 21)) A + (if S0.1 r 21 2 = 0 then 0 else 1)) ∧ Lists (S1.1 r 28) (gP 4 (S0.1 r 3) (S0.1 r 21)) 0 A ∧ (¬ S0.1 r 21 2 = 0 → S1.1 r 28 (cnt (gP 4 (S0.1 r 3) (S0.1 r 21)) A) = nI 2) ∧
          G_XModel_gather_214 O n (G_XModel_gather_167 O n f) r (nI i) T = G_XModel_gather_288 O n r S1 := by
      intro T tF t1 t2 t3 t4
      obtain ⟨T', hT', eT'⟩ := half T tF t1 t2 t3 t4
      obtain ⟨S1, z1, z2, z3, z4, z5, z6, z7⟩ := ih (i + 1) f T' (by omega) (by omega) hT'
      exact ⟨S1, z1, z2, z3, z4, z5, z6, by rw [eT', z7]⟩
    have skip3 : gP 3 (S0.1 r 3) (S0.1 r 21) i = false → S.1 r 23 0 = nI (cnt (gP 3 (S0.1 r 3) (S0.1 r 21)) (i + 1)) := fun q => by rw [cnt_s, q, if_neg (by decide)]; exact g1
    rw [G_XModel_gather_167, rI h (by decide), hF.2 2 (by unfold J167; omega), h2, if_neg (nI_ge (by omega) (by omega)), rA h (by decide), rl h (by decide) (by decide) i21, e21]
    by_cases d0 : S0.1 r 21 i = 0
    · have q : gP 3 (S0.1 r 3) (S0.1 r 21) i = false := by unfold gP; rw [decide_eq_true d0]; rfl
      rw [if_pos d0]
      exact close S hF (skip3 q) g2 (Lists_skip g3 q) g4
    · rw [if_neg d0, rA h (by decide), rl h (by decide) (by decide) i3, e3]
      by_cases k3 : S0.1 r 3 i = 3
      · have hp : gP 3 (S0.1 r 3) (S0.1 r 21) i = true := gP_iff.mpr ⟨d0, k3⟩
        have lt := cnt_lt (show i < A by omega) hp
        have i26 : cnt (gP 3 (S0.1 r 3) (S0.1 r 21)) i < refN 26 := by show _ < 7; omega
        rw [if_pos k3, rA h (by decide), rI h (by decide), g1, rw' h (by decide) (by decide) i26, rI h (by decide), up3_f (by decide), g1, rP h (by decide), nI_1]
        refine close _ ((hF.up (Or.inr (Or.inr (Or.inl rfl)))).up (Or.inl rfl)) ?_ ?_ ?_ ?_
        · rw [up3_v, cnt_s, if_pos hp]
        · rw [up3_f (by decide), up3_f (by decide)]; exact g2
        · rw [up3_f (by decide)]
          have := Lists_put g3 hp
          intro m hm hpm
          have q := this m hm hpm
          show up3 S.1 r 26 _ (nI i) r 26 (0 + cnt _ m) = nI m
          rw [up3_at]
          rw [Nat.zero_add] at q ⊢
          by_cases z : cnt (gP 3 (S0.1 r 3) (S0.1 r 21)) m = cnt (gP 3 (S0.1 r 3) (S0.1 r 21)) i
          · rw [if_pos ⟨rfl, z⟩]
            simp only [Nat.zero_add] at q
            rw [if_pos z] at q; exact q
          · rw [if_neg (fun w => z w.2)]
            simp only [Nat.zero_add] at q
            rw [if_neg z] at q; exact q
        · rw [up3_f (by decide), up3_f (by decide)]; exact g4
      · have q : gP 3 (S0.1 r 3) (S0.1 r 21) i = false := by unfold gP; rw [decide_eq_false k3, Bool.and_false]
        rw [if_neg k3]
        exact close S hF (skip3 q) g2 (Lists_skip g3 q) g4
def J295 (j : Nat) : Prop := j = 24 ∨ j = 26
theorem ref_gather_295 (h : Ref O r) (hA : A ≤ 6400) (h2 : S0.1 r 2 0 = nI A) {b : Nat} (h23 : S0.1 r 23 0 = nI b) (b7 : b + cnt (gP 5 (S0.1 r 3) (S0.1 r 21)) A ≤ 7) : ∀ (d i f : Nat) (S : qS), i + d = A → d < f → rFr r S0 S J295 → S.1 r 24 0 = nI (cnt (gP 5 (S0.1 r 3) (S0.1 r 21)) i) → Lists (S.1 r 26) (gP 5 (S0.1 r 3) (S0.1 r 21)) b i → (∀ k, k < b → S.1 r 26 k = S0.1 r 26 k) →
    ∃ S1, G_XModel_gather_295 O n f r (nI i) S = some ((), S1) ∧ rFr r S0 S1 J295 ∧ S1.1 r 24 0 = nI (cnt (gP 5 (S0.1 r 3) (S0.1 r 21)) A) ∧ Lists (S1.1 r 26) (gP 5 (S0.1 r 3) (S0.1 r 21)) b A ∧ ∀ k, k < b → S1.1 r 26 k = S0.1 r 26 k := by
  intro d
  induction d with
  | zero =>
    intro i f S e hf hF h24 hL hlow
    obtain ⟨f, rfl⟩ : ∃ q, f = q + 1 := ⟨f - 1, by omega⟩
    have e0 : i = A := by omega
    subst e0
    rw [G_XModel_gather_295, rI h (by decide), hF.2 2 (by unfold J295; omega), h2, if_pos (nI_le (by omega) (by omega))]
    exact ⟨S, rfl, hF, h24, hL, hlow⟩
  | succ d ih =>
    intro i f S e hf hF h24 hL hlow
    obtain ⟨f, rfl⟩ : ∃ q, f = q + 1 := ⟨f - 1, by omega⟩
    have i0 : i < 6400 := by omega
    have i3 : i < refN 3 := i0
    have i21 : i < refN 21 := i0
    have e3 := hF.2 3 (by unfold J295; omega)
    have e21 := hF.2 21 (by unfold J295; omega)
    have e23 := hF.2 23 (by unfold J295; omega)
    have skip : gP 5 (S0.1 r 3) (S0.1 r 21) i = false → ∃ S1, G_XModel_gather_347 O n (G_XModel_gather_295 O n f) r (nI i) S = some ((), S1) ∧ rFr r S0 S1 J295 ∧ S1.1 r 24 0 = nI (cnt (gP 5 (S0.1 r 3) (S0.1 r 21)) A) ∧ Lists (S1.1 r 26) (gP 5 (S0.1 r 3) (S0.1 r 21)) b A ∧ ∀ k, k < b → S1.1 r 26 k = S0.1 r 26 k := by
      intro q
      unfold G_XModel_gather_347
      rw [hB_eq, nI_1]
      exact ih (i + 1) f S (by omega) (by omega) hF (by rw [cnt_s, q, if_neg (by decide)]; exact h24) (Lists_skip hL q) hlow
    rw [G_XModel_gather_295, rI h (by decide), hF.2 2 (by unfold J295; omega), h2, if_neg (nI_ge (by omega) (by omega)), rA h (by decide), rl h (by decide) (by decide) i21, e21]
    by_cases d0 : S0.1 r 21 i = 0
    · rw [if_pos d0]
      exact skip (by unfold gP; rw [decide_eq_true d0]; rfl)
    · rw [if_neg d0, rA h (by decide), rl h (by decide) (by decide) i3, e3]
      by_cases k5 : S0.1 r 3 i = 5
      · have hp : gP 5 (S0.1 r 3) (S0.1 r 21) i = true := gP_iff.mpr ⟨d0, k5⟩
        have lt := cnt_lt (show i < A by omega) hp
        have i26 : b + cnt (gP 5 (S0.1 r 3) (S0.1 r 21)) i < refN 26 := by show _ < 7; omega
        rw [if_pos k5, rA h (by decide), rI h (by decide), e23, h23, rI h (by decide), h24, nI_add, rw' h (by decide) (by decide) i26, rI h (by decide), up3_f (by decide), h24, rP h (by decide), nI_1]
        unfold G_XModel_gather_347
        rw [hB_eq, nI_1]
        refine ih (i + 1) f _ (by omega) (by omega) ((hF.up (Or.inr rfl)).up (Or.inl rfl)) ?_ ?_ ?_
        · rw [up3_v, cnt_s, if_pos hp]
        · rw [up3_f (by decide)]
          have := Lists_put hL hp
          intro m hm hpm
          have q := this m hm hpm
          show up3 S.1 r 26 _ (nI i) r 26 (b + cnt _ m) = nI m
          rw [up3_at]
          by_cases z : b + cnt (gP 5 (S0.1 r 3) (S0.1 r 21)) m = b + cnt (gP 5 (S0.1 r 3) (S0.1 r 21)) i
          · rw [if_pos ⟨rfl, z⟩]
            simp only [if_pos z] at q; exact q
          · rw [if_neg (fun w => z w.2)]
            simp only [if_neg z] at q; exact q
        · intro k hk
          rw [up3_f (by decide), up3_o (by omega)]
          exact hlow k hk
      · rw [if_neg k5]
        exact skip (by unfold gP; rw [decide_eq_false k5, Bool.and_false])
end GATHER2
