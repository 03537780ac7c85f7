/-! THE REFERENCE'S run AND kept, up to the asking -/
def itr (f : (Nat → Nat) → Nat → Nat) : Nat → (Nat → Nat) → Nat → Nat
  | 0, st => st
  | d + 1, st => itr f d (f st)
/-- what the face must hold for steps -/
def StepOk (O : qOb9) (r n E N : Nat) (S0 : qS) (eS : Nat → Bool) : Prop := Ref O r ∧ 3000000 ≤ n ∧ E ≤ 16 ∧ N ≤ 300 ∧ S0.1 r 1 0 = nI N ∧ S0.1 r 9 0 = nI E ∧ (∀ m, m < N → rowOk (S0.1 r 3) (S0.1 r 4) (S0.1 r 5) (S0.1 r 6) E m) ∧ ElS r N S0 eS ∧ NxOk r E N S0 eS
section RUN
variable {O : qOb9} {r n E N : Nat} {S0 : qS} {eS : Nat → Bool}
theorem ref_run_36 (hO : StepOk O r n E N S0 eS) {d : Nat} (hd : d ≤ 8) : ∀ (k i f : Nat) (S : qS) (A : Nat) (st : Nat → Nat), i + k = d → k < f → RunI r E N S0 S A → A + k * N ≤ 6400 → StOk r E A S st eS →
    ∃ S' A', G_XModel_run_36 O n f r (nI d) (nI i) S = G_XModel_run_54 O n n r (nI d) 0 S' ∧ RunI r E N S0 S' A' ∧ A ≤ A' ∧ A' ≤ A + k * N ∧ StOk r E A' S' (itr (stp S0 r (pr 0 0)) k st) eS := by
  obtain ⟨h, hn, hE, hN3, h1, h9, hrow, hel, hnx⟩ := hO
  intro k
  induction k with
  | zero =>
    intro i f S A st e hf hR hroom hst
    obtain ⟨f, rfl⟩ : ∃ q, f = q + 1 := ⟨f - 1, by omega⟩
    refine ⟨S, A, ?_, hR, Nat.le_refl A, by omega, hst⟩
    rw [G_XModel_run_36, if_pos (nI_le (by omega) (by omega))]
  | succ k ih =>
    intro i f S A st e hf hR hroom hst
    obtain ⟨f, rfl⟩ : ∃ q, f = q + 1 := ⟨f - 1, by omega⟩
    have ek : (k + 1) * N = k * N + N := Nat.succ_mul k N
    obtain ⟨S1, A1, e1, r1, a1, a1', s1, _⟩ := ref_step (O := O) (n := n) (w := 0) h (by omega) hE hN3 h1 h9 hrow hel hnx hR (by omega) hst (by decide)
    obtain ⟨S2, A2, e2, r2, a2, a2', s2⟩ := ih (i + 1) f S1 A1 _ (by omega) (by omega) r1 (by omega) s1
    refine ⟨S2, A2, ?_, r2, by omega, by omega, s2⟩
    rw [nI_0] at e1
    rw [G_XModel_run_36, if_neg (nI_ge (by omega) (by omega)), rk h, e1, yV_some, hB_eq, nI_1]
    exact e2
theorem ref_run_86 (hO : StepOk O r n E N S0 eS) {d : Nat} (hd : d ≤ 8) : ∀ (k i f : Nat) (S : qS) (A : Nat) (st : Nat → Nat), i + k = d → k < f → RunI r E N S0 S A → A + k * N ≤ 6400 → StOk r E A S st eS →
    ∃ S' A', G_XModel_run_86 O n f r (nI d) (nI i) S = yV (G_XModel_putIn O n r 2 S') (fun S2 => yV (G_XModel_unmark O n r S2) (fun S3 => G_XModel_run_113 O n n r 0 S3)) ∧ RunI r E N S0 S' A' ∧ A ≤ A' ∧ A' ≤ A + k * N ∧ StOk r E A' S' (itr (stp S0 r (pr 0 0)) k st) eS ∧ ∀ m, m < A → rCd S' r m = rCd S r m := by
  obtain ⟨h, hn, hE, hN3, h1, h9, hrow, hel, hnx⟩ := hO
  intro k
  induction k with
  | zero =>
    intro i f S A st e hf hR hroom hst
    obtain ⟨f, rfl⟩ : ∃ q, f = q + 1 := ⟨f - 1, by omega⟩
    refine ⟨S, A, ?_, hR, Nat.le_refl A, by omega, hst, fun _ _ => rfl⟩
    rw [G_XModel_run_86, if_pos (nI_le (by omega) (by omega)), rk h]
    congr 1
    funext S2
    rw [rk h]
  | succ k ih =>
    intro i f S A st e hf hR hroom hst
    obtain ⟨f, rfl⟩ : ∃ q, f = q + 1 := ⟨f - 1, by omega⟩
    have ek : (k + 1) * N = k * N + N := Nat.succ_mul k N
    obtain ⟨S1, A1, e1, r1, a1, a1', s1, c1⟩ := ref_step (O := O) (n := n) (w := 0) h (by omega) hE hN3 h1 h9 hrow hel hnx hR (by omega) hst (by decide)
    obtain ⟨S2, A2, e2, r2, a2, a2', s2, c2⟩ := ih (i + 1) f S1 A1 _ (by omega) (by omega) r1 (by omega) s1
    refine ⟨S2, A2, ?_, r2, by omega, by omega, s2, fun m hm => by rw [c2 m (by omega), c1 m hm]⟩
    rw [nI_0] at e1
    rw [G_XModel_run_86, if_neg (nI_ge (by omega) (by omega)), rk h, e1, yV_some, hB_eq, nI_1]
    exact e2
theorem ref_run_54 (h : Ref O r) (hn : 7000 ≤ n) {S : qS} (hE : E ≤ 16) (h9 : S.1 r 9 0 = nI E) {l1 : Int32} : ∀ (d e f : Nat) (G : Nat → Int32), e + d = E → d < f →
    G_XModel_run_54 O n f r l1 (nI e) (setF S r 19 G) = yV (G_XModel_beginState O n r (setF S r 19 (fun i => if e ≤ i ∧ i < E then S.1 r 18 i else G i))) (fun S3 => G_XModel_run_86 O n n r l1 0 S3) := by
  intro d
  induction d with
  | zero =>
    intro e f G ee hf
    obtain ⟨f, rfl⟩ : ∃ q, f = q + 1 := ⟨f - 1, by omega⟩
    rw [G_XModel_run_54, rI h (by decide), setF_ne (by decide), h9, if_pos (nI_le (by omega) (by omega)), rk h]
    have e2 : (fun i => if e ≤ i ∧ i < E then S.1 r 18 i else G i) = G := by
      funext k
      rw [if_neg (by omega)]
    rw [e2]
  | succ d ih =>
    intro e f G ee hf
    obtain ⟨f, rfl⟩ : ∃ q, f = q + 1 := ⟨f - 1, by omega⟩
    have e18 : e < refN 18 := by show e < 16; omega
    have e19 : e < refN 19 := by show e < 16; omega
    rw [G_XModel_run_54, rI h (by decide), setF_ne (by decide), h9, if_neg (nI_ge (by omega) (by omega)), rA h (by decide), rA h (by decide), rl h (by decide) (by decide) e18, setF_ne (by decide), rw' h (by decide) (by decide) e19, setF_up, setF_setF, setF_same, hB_eq, nI_1, ih (e + 1) f _ (by omega) (by omega)]
    have e2 : (fun i => if e + 1 ≤ i ∧ i < E then S.1 r 18 i else if i = e then S.1 r 18 e else G i) = (fun i => if e ≤ i ∧ i < E then S.1 r 18 i else G i) := by
      funext k
      by_cases q : k = e
      · rw [if_neg (by omega), if_pos q, if_pos (by omega), q]
      · rw [if_neg q]
        by_cases q2 : e + 1 ≤ k ∧ k < E
        · rw [if_pos q2, if_pos (by omega)]
        · rw [if_neg q2, if_neg (by omega)]
    rw [e2]
/-- marks, as a set -/
def MK (r A : Nat) (S : qS) (T : Nat → Prop) : Prop := (∀ q, S.1 r 21 q = 0 ∨ S.1 r 21 q = 1) ∧ ∀ m, m < A → (¬ S.1 r 21 m = 0 ↔ T m)
theorem mkd_nI {D : Nat → Int32} {q m : Nat} (hq : q < 2 ^ 31) : ¬ mkd D (nI q) m = 0 ↔ ¬ D m = 0 ∨ m = q := by
  unfold mkd
  rw [nI_clamp hq]
  by_cases z : ¬ nI q < 0 ∧ m = q
  · rw [if_pos z]
    exact ⟨fun _ => Or.inr z.2, fun _ => by decide⟩
  · rw [if_neg z]
    exact ⟨Or.inl, fun h => h.elim id (fun e => absurd ⟨nI_pos hq, e⟩ z)⟩
theorem ref_mark_MK (h : Ref O r) {A q : Nat} (hA : A ≤ 6400) (hq : q < A) {S : qS} {T : Nat → Prop} (hT : MK r A S T) : ∃ S', G_XModel_mark O n r (nI q) S = some ((), S') ∧ rFr r S S' (fun j => j = 21) ∧ MK r A S' (fun m => T m ∨ m = q) := by
  refine ⟨_, ref_mark h (Or.inr ⟨q, by omega, rfl⟩), ⟨setF_only, fun j hj => setF_ne hj⟩, fun p => ?_, fun m hm => ?_⟩
  · rw [setF_same]; exact mkd_01 hT.1 p
  · rw [setF_same, mkd_nI (by omega), hT.2 m hm]
theorem MK_iff {A : Nat} {S : qS} {T T' : Nat → Prop} (h : MK r A S T) (he : ∀ m, m < A → (T m ↔ T' m)) : MK r A S T' := ⟨h.1, fun m hm => (h.2 m hm).trans (he m hm)⟩
/-- seen elements' nodes are marked, both ways -/
theorem ref_run_113 (h : Ref O r) (hn : 7000 ≤ n) (hE : E ≤ 16) (hN3 : N ≤ 300) {A : Nat} (hA : A ≤ 6400) {Sb : qS} (h9 : Sb.1 r 9 0 = nI E) (hone : ∀ e, e < E → ∃ m, m < A ∧ Sb.1 r 19 e = nI m) (hpl : ∀ e, e < E → ¬ Sb.1 r 15 e = 0 → ∃ p m, p < 300 ∧ m < A ∧ Sb.1 r 14 e = nI p ∧ Sb.1 r 17 p = nI m) :
    ∀ (d e f : Nat) (S : qS), e + d = E → d < f → rFr r Sb S (fun j => j = 20 ∨ j = 21) → (∀ a, a < e → ¬ Sb.1 r 15 a = 0 → S.1 r 20 a = Sb.1 r 17 (tN (Sb.1 r 14 a))) → MK r A S (fun m => ∃ a, a < e ∧ ¬ Sb.1 r 15 a = 0 ∧ (Sb.1 r 19 a = nI m ∨ Sb.1 r 17 (tN (Sb.1 r 14 a)) = nI m)) →
      ∃ S', G_XModel_run_113 O n f r (nI e) S = G_XModel_run_175 O n n r 0 S' ∧ rFr r Sb S' (fun j => j = 20 ∨ j = 21) ∧ (∀ a, a < E → ¬ Sb.1 r 15 a = 0 → S'.1 r 20 a = Sb.1 r 17 (tN (Sb.1 r 14 a))) ∧ MK r A S' (fun m => ∃ a, a < E ∧ ¬ Sb.1 r 15 a = 0 ∧ (Sb.1 r 19 a = nI m ∨ Sb.1 r 17 (tN (Sb.1 r 14 a)) = nI m)) := by
  intro d
  induction d with
  | zero =>
    intro e f S ee hf hF hw hM
    obtain ⟨f, rfl⟩ : ∃ q, f = q + 1 := ⟨f - 1, by omega⟩
    have e0 : e = E := by omega
    subst e0
    refine ⟨S, ?_, hF, hw, hM⟩
    rw [G_XModel_run_113, rI h (by decide), hF.2 9 (by omega), h9, if_pos (nI_le (by omega) (by omega))]
  | succ d ih =>
    intro e f S ee hf hF hw hM
    obtain ⟨f, rfl⟩ : ∃ q, f = q + 1 := ⟨f - 1, by omega⟩
    have e15 : e < refN 15 := by show e < 16; omega
    have e14 : e < refN 14 := by show e < 16; omega
    have e19 : e < refN 19 := by show e < 16; omega
    have e20 : e < refN 20 := by show e < 16; omega
    rw [G_XModel_run_113, rI h (by decide), hF.2 9 (by omega), h9, if_neg (nI_ge (by omega) (by omega)), rA h (by decide), rl h (by decide) (by decide) e15, hF.2 15 (by omega)]
    by_cases s0 : Sb.1 r 15 e = 0
    · rw [if_pos s0]
      unfold G_XModel_run_167
      rw [hB_eq, nI_1]
      refine ih (e + 1) f S (by omega) (by omega) hF (fun a ha hs => ?_) (MK_iff hM (fun m hm => ⟨fun ⟨a, ha, q⟩ => ⟨a, by omega, q⟩, fun ⟨a, ha, q⟩ => ?_⟩))
      · by_cases z : a = e
        · rw [z] at hs; exact absurd s0 hs
        · exact hw a (by omega) hs
      · by_cases z : a = e
        · rw [z] at q; exact absurd s0 q.1
        · exact ⟨a, by omega, q⟩
    · obtain ⟨p, m2, hp, hm2, ep, em2⟩ := hpl e (by omega) s0
      obtain ⟨m1, hm1, em1⟩ := hone e (by omega)
      have p17 : p < refN 17 := hp
      have tp : tN (Sb.1 r 14 e) = p := by rw [ep]; exact nI_clamp (by omega)
      rw [if_neg s0, rA h (by decide), rA h (by decide), rA h (by decide), rl h (by decide) (by decide) e14, hF.2 14 (by omega), ep, rl h (by decide) (by decide) p17, hF.2 17 (by omega), em2, rw' h (by decide) (by decide) e20]
      have fr1 : rFr r Sb (up3 S.1 r 20 e (nI m2), S.2) (fun j => j = 20 ∨ j = 21) := hF.up (Or.inl rfl)
      have v20 : ((up3 S.1 r 20 e (nI m2), S.2) : qS).1 r 20 e = nI m2 := up3_v
      have o20 : ∀ a, a ≠ e → ((up3 S.1 r 20 e (nI m2), S.2) : qS).1 r 20 a = S.1 r 20 a := fun a ha => up3_o ha
      have hM1 : MK r A (up3 S.1 r 20 e (nI m2), S.2) (fun m => ∃ a, a < e ∧ ¬ Sb.1 r 15 a = 0 ∧ (Sb.1 r 19 a = nI m ∨ Sb.1 r 17 (tN (Sb.1 r 14 a)) = nI m)) := ⟨fun q => by rw [up3_f (by decide)]; exact hM.1 q, fun m hm => by rw [up3_f (by decide)]; exact hM.2 m hm⟩
      generalize ((up3 S.1 r 20 e (nI m2), S.2) : qS) = T at fr1 v20 o20 hM1 ⊢
      obtain ⟨T1, g1, g2, g3⟩ := ref_mark_MK (O := O) (n := n) h hA hm1 hM1
      have g20 : T1.1 r 20 e = nI m2 := by rw [g2.2 20 (by decide)]; exact v20
      obtain ⟨T2, k1, k2, k3⟩ := ref_mark_MK (O := O) (n := n) h hA hm2 g3
      rw [rA h (by decide), rl h (by decide) (by decide) e19, fr1.2 19 (by omega), em1, rk h, g1, yV_some, rA h (by decide), rl h (by decide) (by decide) e20, g20, rk h, k1, yV_some]
      unfold G_XModel_run_167
      rw [hB_eq, nI_1]
      refine ih (e + 1) f T2 (by omega) (by omega) ((fr1.trans (g2.mono (fun j hj => Or.inr hj))).trans (k2.mono (fun j hj => Or.inr hj))) (fun a ha hs => ?_) (MK_iff k3 (fun m hm => ⟨?_, ?_⟩))
      · rw [k2.2 20 (by decide), g2.2 20 (by decide)]
        by_cases z : a = e
        · rw [z, v20, tp, em2]
        · rw [o20 a z]; exact hw a (by omega) hs
      · rintro ((⟨a, ha, q⟩ | q) | q)
        · exact ⟨a, by omega, q⟩
        · exact ⟨e, by omega, s0, Or.inl (by rw [em1, q])⟩
        · exact ⟨e, by omega, s0, Or.inr (by rw [tp, em2, q])⟩
      · rintro ⟨a, ha, hs, q⟩
        by_cases z : a = e
        · subst z
          rcases q with q | q
          · left; right; exact (nI_eq (by omega) (by omega)).mp (q.symm.trans em1)
          · right
            rw [tp, em2] at q
            exact (nI_eq (by omega) (by omega)).mp q.symm
        · exact Or.inl (Or.inl ⟨a, by omega, hs, q⟩)
end RUN
