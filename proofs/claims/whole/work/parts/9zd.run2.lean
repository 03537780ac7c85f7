section RUN2
variable {O : qOb9} {r n E N I : Nat}
theorem ref_run_175 (h : Ref O r) {A : Nat} (hA : A ≤ 6400) {Sb : qS} (h10 : Sb.1 r 10 0 = nI I) (hI8 : I ≤ 8) (hinv : ∀ k, k < I → ∃ m, m < A ∧ Sb.1 r 16 k = nI m) {T : Nat → Prop} :
    ∀ (d k f : Nat) (S : qS), k + d = I → d < f → rFr r Sb S (fun j => j = 21) → MK r A S (fun m => T m ∨ ∃ a, a < k ∧ Sb.1 r 16 a = nI m) →
      ∃ S', rFr r Sb S' (fun j => j = 21) ∧ MK r A S' (fun m => T m ∨ ∃ a, a < I ∧ Sb.1 r 16 a = nI m) ∧ G_XModel_run_175 O n f r (nI k) S = yC (G_XModel_ask O n r (-1) S') (fun v4 S3 => hP 0 O S3 r 33 1 (fun S5 => some (v4, S5))) := by
  intro d
  induction d with
  | zero =>
    intro k f S e hf hF hM
    obtain ⟨f, rfl⟩ : ∃ q, f = q + 1 := ⟨f - 1, by omega⟩
    have e0 : k = I := by omega
    subst e0
    refine ⟨S, hF, hM, ?_⟩
    rw [G_XModel_run_175, rI h (by decide), hF.2 10 (by decide), h10, if_pos (nI_le (by omega) (by omega)), rk h]
  | succ d ih =>
    intro k f S e hf hF hM
    obtain ⟨f, rfl⟩ : ∃ q, f = q + 1 := ⟨f - 1, by omega⟩
    obtain ⟨m, hm, em⟩ := hinv k (by omega)
    have k16 : k < refN 16 := by show k < 8; omega
    obtain ⟨T1, g1, g2, g3⟩ := ref_mark_MK (O := O) (n := n) h hA hm hM
    rw [G_XModel_run_175, rI h (by decide), hF.2 10 (by decide), h10, if_neg (nI_ge (by omega) (by omega)), rA h (by decide), rl h (by decide) (by decide) k16, hF.2 16 (by decide), em, rk h, g1, yV_some, hB_eq, nI_1]
    refine ih (k + 1) f T1 (by omega) (by omega) (hF.trans g2) (MK_iff g3 (fun m' hm' => ⟨?_, ?_⟩))
    · rintro ((q | ⟨a, ha, q⟩) | q)
      · exact Or.inl q
      · exact Or.inr ⟨a, by omega, q⟩
      · exact Or.inr ⟨k, by omega, by rw [em, q]⟩
    · rintro (q | ⟨a, ha, q⟩)
      · exact Or.inl (Or.inl q)
      · by_cases z : a = k
        · subst z
          right; exact (nI_eq (by omega) (by omega)).mp (q.symm.trans em)
        · exact Or.inl (Or.inr ⟨a, by omega, q⟩)
theorem ref_kept_66 (h : Ref O r) {A : Nat} (hA : A ≤ 6400) {Sb : qS} (h10 : Sb.1 r 10 0 = nI I) (hI8 : I ≤ 8) (hinv : ∀ k, k < I → ∃ m, m < A ∧ Sb.1 r 16 k = nI m) {T : Nat → Prop} {l2 : Int32} :
    ∀ (d k f : Nat) (S : qS), k + d = I → d < f → rFr r Sb S (fun j => j = 21) → MK r A S (fun m => T m ∨ ∃ a, a < k ∧ Sb.1 r 16 a = nI m) →
      ∃ S', rFr r Sb S' (fun j => j = 21) ∧ MK r A S' (fun m => T m ∨ ∃ a, a < I ∧ Sb.1 r 16 a = nI m) ∧ G_XModel_kept_66 O n f r l2 (nI k) S = yC (G_XModel_ask O n r l2 S') (fun v4 S3 => hP 0 O S3 r 34 (-1) (fun S5 => some (v4, S5))) := by
  intro d
  induction d with
  | zero =>
    intro k f S e hf hF hM
    obtain ⟨f, rfl⟩ : ∃ q, f = q + 1 := ⟨f - 1, by omega⟩
    have e0 : k = I := by omega
    subst e0
    refine ⟨S, hF, hM, ?_⟩
    rw [G_XModel_kept_66, rI h (by decide), hF.2 10 (by decide), h10, if_pos (nI_le (by omega) (by omega)), rk h]
  | succ d ih =>
    intro k f S e hf hF hM
    obtain ⟨f, rfl⟩ : ∃ q, f = q + 1 := ⟨f - 1, by omega⟩
    obtain ⟨m, hm, em⟩ := hinv k (by omega)
    have k16 : k < refN 16 := by show k < 8; omega
    obtain ⟨T1, g1, g2, g3⟩ := ref_mark_MK (O := O) (n := n) h hA hm hM
    rw [G_XModel_kept_66, rI h (by decide), hF.2 10 (by decide), h10, if_neg (nI_ge (by omega) (by omega)), rA h (by decide), rl h (by decide) (by decide) k16, hF.2 16 (by decide), em, rk h, g1, yV_some, hB_eq, nI_1]
    refine ih (k + 1) f T1 (by omega) (by omega) (hF.trans g2) (MK_iff g3 (fun m' hm' => ⟨?_, ?_⟩))
    · rintro ((q | ⟨a, ha, q⟩) | q)
      · exact Or.inl q
      · exact Or.inr ⟨a, by omega, q⟩
      · exact Or.inr ⟨k, by omega, by rw [em, q]⟩
    · rintro (q | ⟨a, ha, q⟩)
      · exact Or.inl (Or.inl q)
      · by_cases z : a = k
        · subst z
          right; exact (nI_eq (by omega) (by omega)).mp (q.symm.trans em)
        · exact Or.inl (Or.inr ⟨a, by omega, q⟩)
end RUN2
/-- THE REFERENCE'S STATE between calls -/
def RI (r E N A I : Nat) (S : qS) (eS : Nat → Bool) : Prop :=
  FaceA r S E N A ∧
  (∀ e, e < E → ∃ m, m < N ∧ S.1 r 11 e = nI m ∧ (S.1 r 3 m = 3 ∨ S.1 r 3 m = 4) ∧ S.1 r 4 m = nI e ∧ (S.1 r 3 m = 3 ↔ eS e = true)) ∧
  (∀ m, m < N → S.1 r 3 m = 3 ∨ S.1 r 3 m = 4 → ∃ e, e < E ∧ S.1 r 4 m = nI e ∧ S.1 r 11 e = nI m) ∧ ElO r N S ∧ NxOk r E N S eS ∧
  (∀ e, S.1 r 13 e = 0 ∨ S.1 r 13 e = 1) ∧ (∀ e, S.1 r 15 e = 0 ∨ S.1 r 15 e = 1) ∧ (∀ e, E ≤ e → S.1 r 13 e = 0 ∧ S.1 r 15 e = 0) ∧
  (∀ e, e < E → ¬ S.1 r 15 e = 0 → ∃ m, m < N ∧ S.1 r 14 e = nI m ∧ wd (S.1 r 3) (S.1 r 5) m = eS e ∧ hf (S.1 r 3) (S.1 r 4) (S.1 r 5) (S.1 r 6) m = false) ∧
  S.1 r 10 0 = nI I ∧ I ≤ 8 ∧ (∀ k, k < I → ∃ m, m < N ∧ S.1 r 16 k = nI m ∧ wd (S.1 r 3) (S.1 r 5) m = false ∧ hf (S.1 r 3) (S.1 r 4) (S.1 r 5) (S.1 r 6) m = false)
/-- the same face -/
def SameF (r N : Nat) (S S' : qS) : Prop := (∀ j, (j = 1 ∨ j = 9 ∨ j = 10 ∨ j = 11 ∨ j = 12 ∨ j = 13 ∨ j = 14 ∨ j = 15 ∨ j = 16) → S'.1 r j = S.1 r j) ∧ ∀ m, m < N → S'.1 r 3 m = S.1 r 3 m ∧ S'.1 r 4 m = S.1 r 4 m ∧ S'.1 r 5 m = S.1 r 5 m ∧ S'.1 r 6 m = S.1 r 6 m
section SAMEF
variable {r E N A I : Nat} {S S' : qS} {eS : Nat → Bool}
theorem hf_congr {κ α β γ κ' α' β' γ' : Nat → Int32} (hS : ∀ n, n < N → rowOk κ α β γ E n) (hN : N < 2 ^ 31) (ag : ∀ m, m < N → κ' m = κ m ∧ α' m = α m ∧ β' m = β m ∧ γ' m = γ m) : ∀ m, m < N → hf κ' α' β' γ' m = hf κ α β γ m := by
  have hS' : ∀ n, n < N → rowOk κ' α' β' γ' E n := fun n hn => rowOk_congr (Nat.le_refl E) (by omega) (fun m hm => hS m (by omega)) (fun m hm => ag m (by omega)) (hS n hn)
  intro m
  induction m using Nat.strongRecOn with
  | ind m ih =>
    intro hm
    have e1 := hf_iff hS hN hm
    have e2 := hf_iff hS' hN hm
    obtain ⟨g1, g2, g3, g4⟩ := ag m hm
    have e3 : (hf κ' α' β' γ' m = true) ↔ (hf κ α β γ m = true) := by
      rw [e1, e2, g1]
      constructor
      · rintro (q | ⟨p, hp, hpt, hh⟩)
        · exact Or.inl q
        · refine Or.inr ⟨p, hp, ?_, by rw [← ih p hp (by omega)]; exact hh⟩
          unfold isPt at hpt ⊢
          rw [g1, g2, g3, g4] at hpt
          exact hpt
      · rintro (q | ⟨p, hp, hpt, hh⟩)
        · exact Or.inl q
        · refine Or.inr ⟨p, hp, ?_, by rw [ih p hp (by omega)]; exact hh⟩
          unfold isPt at hpt ⊢
          rw [g1, g2, g3, g4]
          exact hpt
    cases q : hf κ α β γ m with
    | true => exact e3.mpr q
    | false =>
      cases q' : hf κ' α' β' γ' m with
      | false => rfl
      | true => rw [e3.mp q'] at q; cases q
theorem RI_same {A' : Nat} (hI : RI r E N A I S eS) (hs : SameF r N S S') (h2 : S'.1 r 2 0 = nI A') (hNA : N ≤ A') (hA' : A' ≤ 6400) (hp : ∀ m, m < A' → pB (S'.1 r 4 m) ∧ pB (S'.1 r 5 m) ∧ pB (S'.1 r 6 m)) (h01 : ∀ m, S'.1 r 21 m = 0 ∨ S'.1 r 21 m = 1) : RI r E N A' I S' eS := by
  obtain ⟨f, i2, i3, i4, i5, i6, i7, i8, i9, i10, i11, i12⟩ := hI
  obtain ⟨s1, s2⟩ := hs
  obtain ⟨⟨f1, f2, f3, f4, f5⟩, g2, g3, g4, g5, g6⟩ := f
  have hw : ∀ m, m < N → wd (S'.1 r 3) (S'.1 r 5) m = wd (S.1 r 3) (S.1 r 5) m := wd_congr f5.2.1 (by omega) (fun m hm => (s2 m hm).1) (fun m hm => (s2 m hm).2.2.1)
  have hh := hf_congr (κ' := S'.1 r 3) (α' := S'.1 r 4) (β' := S'.1 r 5) (γ' := S'.1 r 6) f5.2.1 (by omega) s2
  refine ⟨⟨⟨by rw [s1 1 (by omega)]; exact f1, by rw [s1 9 (by omega)]; exact f2, f3, f4, Store_same (Nat.le_refl E) (by omega) f5 s2⟩, h2, hNA, hA', hp, h01⟩, fun e he => ?_, fun m hm hk => ?_, fun m m' e e' hmm hm' hk hk' ea ea' => ?_, fun e he => ?_, fun e => by rw [s1 13 (by omega)]; exact i6 e, fun e => by rw [s1 15 (by omega)]; exact i7 e, fun e he => by rw [s1 13 (by omega), s1 15 (by omega)]; exact i8 e he, fun e he hs => ?_, by rw [s1 10 (by omega)]; exact i10, i11, fun k hk => ?_⟩
  · obtain ⟨m, hm, em, k, a, w⟩ := i2 e he
    obtain ⟨q1, q2, q3, q4⟩ := s2 m hm
    exact ⟨m, hm, by rw [s1 11 (by omega)]; exact em, by rw [q1]; exact k, by rw [q2]; exact a, by rw [q1]; exact w⟩
  · obtain ⟨q1, q2, q3, q4⟩ := s2 m hm
    rw [q1] at hk
    obtain ⟨e, he, a, em⟩ := i3 m hm hk
    exact ⟨e, he, by rw [q2]; exact a, by rw [s1 11 (by omega)]; exact em⟩
  · obtain ⟨q1, q2, _⟩ := s2 m (by omega)
    obtain ⟨q1', q2', _⟩ := s2 m' hm'
    rw [q1] at hk
    rw [q1'] at hk'
    rw [q2] at ea
    rw [q2'] at ea'
    exact i4 m m' e e' hmm hm' hk hk' ea ea'
  · obtain ⟨m, hm, em, w⟩ := i5 e he
    exact ⟨m, hm, by rw [s1 12 (by omega)]; exact em, by rw [hw m hm]; exact w⟩
  · rw [s1 15 (by omega)] at hs
    obtain ⟨m, hm, em, w, hz⟩ := i9 e he hs
    exact ⟨m, hm, by rw [s1 14 (by omega)]; exact em, by rw [hw m hm]; exact w, by rw [hh m hm]; exact hz⟩
  · obtain ⟨m, hm, em, w, hz⟩ := i12 k hk
    exact ⟨m, hm, by rw [s1 16 (by omega)]; exact em, by rw [hw m hm]; exact w, by rw [hh m hm]; exact hz⟩
theorem SameF.refl : SameF r N S S := ⟨fun _ _ => rfl, fun _ _ => ⟨rfl, rfl, rfl, rfl⟩⟩
theorem SameF.trans {S1 S2 : qS} (h1 : SameF r N S S1) (h2 : SameF r N S1 S2) : SameF r N S S2 := ⟨fun j hj => (h2.1 j hj).trans (h1.1 j hj), fun m hm => ⟨(h2.2 m hm).1.trans (h1.2 m hm).1, (h2.2 m hm).2.1.trans (h1.2 m hm).2.1, (h2.2 m hm).2.2.1.trans (h1.2 m hm).2.2.1, (h2.2 m hm).2.2.2.trans (h1.2 m hm).2.2.2⟩⟩
end SAMEF
