section CCOUNT
variable {O : qOb9} {x c u p f w q s l n E N I M : Nat} {S : qS} {eS : Nat → Bool}
theorem cls_markInv (hO : ClO O x c u p f w q s l) (hn : 7000 ≤ n) (hC : CS O w 5732 2048 S E M) (h01 : ∀ m, S.1 p 3 m = 0 ∨ S.1 p 3 m = 1) {iv : Nat → Nat} (hQ : QI S q w I M iv) (hI8 : I ≤ 8) :
    ∃ S', G_XProver_markInvariants O n p S = some ((), S') ∧ rOnly p S S' ∧ (∀ i, i ≠ 3 → S'.1 p i = S.1 p i) ∧ MKc S' p 3 M (fun m => ∃ k, k < I ∧ S.1 q 0 k = nI m) := by
  have hO' := hO
  have NE := fun _ : Unit => ClO_ne hO'
  have hA := mkP hO'
  obtain ⟨⟨h1, h2, h3, h4, h5, h6, h7⟩, ⟨o1, o2, o3, o4, o5, o6, o7, o8, o9, o10, o11⟩, ⟨n1, n2, n3⟩, _, _, ⟨ql0, ql1, ql2⟩, _⟩ := hO
  have hM := hC.2.2.1
  have e1 := cls_unmark (O := O) (n := n) hn hA hC hM
  generalize hS1 : setF S p 3 (fun k => if k < M then 0 else S.1 p 3 k) = S1 at e1
  have r1 : rOnly p S S1 := by rw [← hS1]; exact setF_only
  have f1 : ∀ i, i ≠ 3 → S1.1 p i = S.1 p i := fun i hi => by rw [← hS1]; exact setF_ne hi
  have k1 : MKc S1 p 3 M (fun _ => False) := by
    rw [← hS1]
    refine ⟨fun q => ?_, fun m hm => ?_⟩
    · rw [setF_same]
      show (if q < M then (0 : Int32) else S.1 p 3 q) = 0 ∨ (if q < M then (0 : Int32) else S.1 p 3 q) = 1
      by_cases z : q < M
      · rw [if_pos z]; exact Or.inl rfl
      · rw [if_neg z]; exact h01 q
    · rw [setF_same]
      show ¬ (if m < M then (0 : Int32) else S.1 p 3 m) = 0 ↔ False
      rw [if_pos hm]
      exact ⟨fun q => q rfl, fun q => q.elim⟩
  have loop : ∀ (d k fu : Nat) (T : qS), k + d = I → d < fu → rOnly p S T → (∀ i, i ≠ 3 → T.1 p i = S.1 p i) → MKc T p 3 M (fun m => ∃ a, a < k ∧ S.1 q 0 a = nI m) → ∃ T', G_XProver_markInvariants_13 O n fu p (nI k) T = some ((), T') ∧ rOnly p S T' ∧ (∀ i, i ≠ 3 → T'.1 p i = S.1 p i) ∧ MKc T' p 3 M (fun m => ∃ a, a < I ∧ S.1 q 0 a = nI m) := by
    intro d
    induction d with
    | zero =>
      intro k fu T ee hf hT hp hm
      obtain ⟨fu, rfl⟩ : ∃ q, fu = q + 1 := ⟨fu - 1, by omega⟩
      have e0 : k = I := by omega
      subst e0
      rw [G_XProver_markInvariants_13, uO (ci := 6) h4 (by decide), o6, uI (ci := 7) h5 (by decide), hT.2 q (fun z => (NE ()).2.1.2.2.1 z.symm), hQ.1, if_pos (nI_le (by omega) (by omega))]
      exact ⟨T, rfl, hT, hp, hm⟩
    | succ d ih =>
      intro k fu T ee hf hT hp hm
      obtain ⟨fu, rfl⟩ : ∃ q, fu = q + 1 := ⟨fu - 1, by omega⟩
      obtain ⟨v, hv, ev, _, _⟩ := hQ.2 k (by omega)
      have tq : T.1 q = S.1 q := hT.2 q (fun z => (NE ()).2.1.2.2.1 z.symm)
      have cT' : CS O w 5732 2048 T E M := CS_other hC (hT.2 w (fun z => (NE ()).2.1.1 z.symm))
      have k0 : k < oN O q 0 := by rw [ql0]; omega
      obtain ⟨T1, t1, t2, t3, t4⟩ := cls_mark_MK (O := O) (n := n) hA cT' hM hv hm
      rw [G_XProver_markInvariants_13, uO (ci := 6) h4 (by decide), o6, uI (ci := 7) h5 (by decide), tq, hQ.1, if_neg (nI_ge (by omega) (by omega)), uO (ci := 6) h4 (by decide), o5, uA (ci := 6) h4 (by decide), uO (ci := 6) h4 (by decide), o6, uA (ci := 7) h5 (by decide), ul (ci := 7) h5 (by decide) k0 (by omega), tq, ev, uk (ci := 3) n2.1, t1, yV_some, hB_eq, nI_1]
      refine ih (k + 1) fu T1 (by omega) (by omega) (hT.trans t2) (fun i hi => by rw [t3 i hi, hp i hi]) (MKc_iff t4 (fun m hm' => ⟨?_, ?_⟩))
      · have hM31 := (CS_big hC).1
        rintro (⟨a, ha, ea⟩ | rfl)
        · exact ⟨a, by omega, ea⟩
        · exact ⟨k, by omega, ev⟩
      · have hM31 := (CS_big hC).1
        rintro ⟨a, ha, ea⟩
        by_cases z : a = k
        · subst z
          right; exact (nI_eq (by omega) (by omega)).mp (ea.symm.trans ev)
        · exact Or.inl ⟨a, by omega, ea⟩
  obtain ⟨S', y1, y2, y3, y4⟩ := loop I 0 n S1 (by omega) (by omega) r1 f1 (MKc_iff k1 (fun m hm => ⟨fun z => z.elim, fun ⟨a, ha, _⟩ => absurd ha (Nat.not_lt_zero a)⟩))
  rw [nI_0] at y1
  refine ⟨S', ?_, y2, y3, y4⟩
  unfold G_XProver_markInvariants
  rw [uO (ci := 6) h4 (by decide), o5, uA (ci := 6) h4 (by decide), uk (ci := 3) n2.1, e1, yV_some]
  exact y1
theorem cls_count (hO : ClO O x c u p f w q s l) (hn : 7000 ≤ n) (hE : E ≤ 16) (hC : CS O w 5732 2048 S E M) (h01 : ∀ m, S.1 p 3 m = 0 ∨ S.1 p 3 m = 1) (h5' : S.1 u 5 0 = 0) (h6' : S.1 u 6 0 = 0) :
    ∃ S', G_XProver_countDeep O n p u S = some ((), S') ∧ onl (fun o => o = p ∨ o = u) S S' ∧ (∀ i, i ≠ 3 → S'.1 p i = S.1 p i) ∧ S'.1 p 3 = mpAll (S.1 w 0) (S.1 w 1) (S.1 w 2) (S.1 w 3) M (S.1 p 3) ∧ (∀ i, i ≠ 5 → i ≠ 6 → S'.1 u i = S.1 u i) ∧ S'.1 u 5 0 = nI (cnt (gW (S.1 w 0) (S'.1 p 3)) M) ∧ S'.1 u 6 0 = nI (cnt (gT (S.1 w 0) (S'.1 p 3)) M) := by
  have hO' := hO
  have NE := fun _ : Unit => ClO_ne hO'
  have hA := mkP hO'
  obtain ⟨⟨h1, h2, h3, h4, h5, h6, h7⟩, ⟨o1, o2, o3, o4, o5, o6, o7, o8, o9, o10, o11⟩, ⟨n1, n2, n3⟩, _, ⟨p3, p4, p5, p6⟩, _⟩ := hO
  have hM := hC.2.2.1
  have e1 := cls_spread (O := O) (n := n) hn hE hA hC hM
  generalize hD : mpAll (S.1 w 0) (S.1 w 1) (S.1 w 2) (S.1 w 3) M (S.1 p 3) = D at e1 ⊢
  have p1 : (setF S p 3 D).1 p 3 = D := setF_same
  have r1 : rOnly p S (setF S p 3 D) := setF_only
  have q1 : ∀ i, i ≠ 3 → (setF S p 3 D).1 p i = S.1 p i := fun i hi => setF_ne hi
  generalize setF S p 3 D = S1 at e1 p1 r1 q1
  have w1 : S1.1 w = S.1 w := r1.2 w (fun z => (NE ()).2.1.1 z.symm)
  have u1 : S1.1 u = S.1 u := r1.2 u (fun z => (NE ()).2.1.2.2.2.2.2 z.symm)
  have loop : ∀ (d i fu : Nat) (T : qS), i + d = M → d < fu → rOnly u S1 T → (∀ j, j ≠ 5 → j ≠ 6 → T.1 u j = S.1 u j) → T.1 u 5 0 = nI (cnt (gW (S.1 w 0) D) i) → T.1 u 6 0 = nI (cnt (gT (S.1 w 0) D) i) → ∃ T', G_XProver_countDeep_13 O n fu p u (nI i) T = some ((), T') ∧ rOnly u S1 T' ∧ (∀ j, j ≠ 5 → j ≠ 6 → T'.1 u j = S.1 u j) ∧ T'.1 u 5 0 = nI (cnt (gW (S.1 w 0) D) M) ∧ T'.1 u 6 0 = nI (cnt (gT (S.1 w 0) D) M) := by
    intro d
    induction d with
    | zero =>
      intro i fu T ee hf hT hj h50 h60
      obtain ⟨fu, rfl⟩ : ∃ q, fu = q + 1 := ⟨fu - 1, by omega⟩
      have e0 : i = M := by omega
      subst e0
      rw [G_XProver_countDeep_13, uO (ci := 6) h4 (by decide), o5, uI (ci := 3) n2.1 (by decide), hT.2 w (NE ()).2.2.1.2.2.2.1, w1, hC.2.1, if_pos (nI_le (by omega) (by omega))]
      exact ⟨T, rfl, hT, hj, h50, h60⟩
    | succ d ih =>
      intro i fu T ee hf hT hj h50 h60
      obtain ⟨fu, rfl⟩ : ∃ q, fu = q + 1 := ⟨fu - 1, by omega⟩
      have tw : T.1 w = S.1 w := by rw [hT.2 w (NE ()).2.2.1.2.2.2.1, w1]
      have tp : T.1 p = S1.1 p := hT.2 p (NE ()).2.1.2.2.2.2.2
      have i3 : i < oN O p 3 := by rw [p3]; omega
      have i0 : i < oN O w 0 := by rw [n2.2.1 0 (by omega)]; omega
      have is : i < 2 ^ 31 := by omega
      have g86 : ∀ T2 : qS, rOnly u S1 T2 → (∀ j, j ≠ 5 → j ≠ 6 → T2.1 u j = S.1 u j) → T2.1 u 5 0 = nI (cnt (gW (S.1 w 0) D) (i + 1)) → T2.1 u 6 0 = nI (cnt (gT (S.1 w 0) D) (i + 1)) → ∃ T', G_XProver_countDeep_86 O n (G_XProver_countDeep_13 O n fu) p u (nI i) T2 = some ((), T') ∧ rOnly u S1 T' ∧ (∀ j, j ≠ 5 → j ≠ 6 → T'.1 u j = S.1 u j) ∧ T'.1 u 5 0 = nI (cnt (gW (S.1 w 0) D) M) ∧ T'.1 u 6 0 = nI (cnt (gT (S.1 w 0) D) M) := by
        intro T2 a1 a2 a3 a4
        unfold G_XProver_countDeep_86
        rw [hB_eq, nI_1]
        exact ih (i + 1) fu T2 (by omega) (by omega) a1 a2 a3 a4
      have g53 : gW (S.1 w 0) D i = true → gT (S.1 w 0) D i = false → ∃ T', G_XProver_countDeep_53 O n (G_XProver_countDeep_13 O n fu) p u (nI i) T = some ((), T') ∧ rOnly u S1 T' ∧ (∀ j, j ≠ 5 → j ≠ 6 → T'.1 u j = S.1 u j) ∧ T'.1 u 5 0 = nI (cnt (gW (S.1 w 0) D) M) ∧ T'.1 u 6 0 = nI (cnt (gT (S.1 w 0) D) M) := by
        intro y1 y2
        unfold G_XProver_countDeep_53
        rw [uI (ci := 4) h3 (by decide), h50, uP (ci := 4) h3 (by decide), nI_1]
        refine g86 _ (hT.trans rOnly.up) (fun j j5 j6 => by rw [up3_f j5]; exact hj j j5 j6) ?_ ?_
        · rw [up3_v, cnt_s, if_pos y1]
        · rw [up3_f (by decide), cnt_s, y2, if_neg (by decide)]; exact h60
      have g76 : gW (S.1 w 0) D i = false → gT (S.1 w 0) D i = true → ∃ T', G_XProver_countDeep_76 O n (G_XProver_countDeep_13 O n fu) p u (nI i) T = some ((), T') ∧ rOnly u S1 T' ∧ (∀ j, j ≠ 5 → j ≠ 6 → T'.1 u j = S.1 u j) ∧ T'.1 u 5 0 = nI (cnt (gW (S.1 w 0) D) M) ∧ T'.1 u 6 0 = nI (cnt (gT (S.1 w 0) D) M) := by
        intro y1 y2
        unfold G_XProver_countDeep_76
        rw [uI (ci := 4) h3 (by decide), h60, uP (ci := 4) h3 (by decide), nI_1]
        refine g86 _ (hT.trans rOnly.up) (fun j j5 j6 => by rw [up3_f j6]; exact hj j j5 j6) ?_ ?_
        · rw [up3_f (by decide), cnt_s, y1, if_neg (by decide)]; exact h50
        · rw [up3_v, cnt_s, if_pos y2]
      have g00 : gW (S.1 w 0) D i = false → gT (S.1 w 0) D i = false → ∃ T', G_XProver_countDeep_86 O n (G_XProver_countDeep_13 O n fu) p u (nI i) T = some ((), T') ∧ rOnly u S1 T' ∧ (∀ j, j ≠ 5 → j ≠ 6 → T'.1 u j = S.1 u j) ∧ T'.1 u 5 0 = nI (cnt (gW (S.1 w 0) D) M) ∧ T'.1 u 6 0 = nI (cnt (gT (S.1 w 0) D) M) := by
        intro y1 y2
        refine g86 T hT hj ?_ ?_
        · rw [cnt_s, y1, if_neg (by decide)]; exact h50
        · rw [cnt_s, y2, if_neg (by decide)]; exact h60
      rw [G_XProver_countDeep_13, uO (ci := 6) h4 (by decide), o5, uI (ci := 3) n2.1 (by decide), tw, hC.2.1, if_neg (nI_ge (by omega) (by omega)), uA (ci := 6) h4 (by decide), ul (ci := 6) h4 (by decide) i3 is, tp, p1]
      by_cases d0 : D i = 0
      · rw [if_pos d0]
        exact g00 (by unfold gW; rw [decide_eq_true d0]; rfl) (by unfold gT; rw [decide_eq_true d0]; rfl)
      · rw [if_neg d0, uO (ci := 6) h4 (by decide), o5, uA (ci := 3) n2.1 (by decide), ul (ci := 3) n2.1 (by decide) i0 is, tw]
        by_cases k3 : S.1 w 0 i = 3
        · rw [if_pos k3]
          exact g53 (by unfold gW; rw [decide_eq_false d0, k3]; rfl) (by unfold gT; rw [decide_eq_false d0, k3]; rfl)
        rw [if_neg k3]
        by_cases k5 : S.1 w 0 i = 5
        · rw [if_pos k5]
          exact g53 (by unfold gW; rw [decide_eq_false d0, k5]; rfl) (by unfold gT; rw [decide_eq_false d0, k5]; rfl)
        rw [if_neg k5]
        by_cases k4 : S.1 w 0 i = 4
        · rw [if_pos k4]
          exact g76 (by unfold gW; rw [decide_eq_false d0, k4]; rfl) (by unfold gT; rw [decide_eq_false d0, k4]; rfl)
        rw [if_neg k4]
        by_cases k2 : S.1 w 0 i = 2
        · rw [if_pos k2]
          exact g76 (by unfold gW; rw [decide_eq_false d0, k2]; rfl) (by unfold gT; rw [decide_eq_false d0, k2]; rfl)
        rw [if_neg k2]
        exact g00 (by unfold gW; rw [decide_eq_false k3, decide_eq_false k5, Bool.or_false, Bool.and_false]) (by unfold gT; rw [decide_eq_false k4, decide_eq_false k2, Bool.or_false, Bool.and_false])
  obtain ⟨S', y1, y2, y3, y4, y5⟩ := loop M 0 n S1 (by omega) (by omega) rOnly.refl (fun j _ _ => by rw [u1]) (by rw [u1, h5']; rfl) (by rw [u1, h6']; rfl)
  rw [nI_0] at y1
  have pp : S'.1 p = S1.1 p := y2.2 p (NE ()).2.1.2.2.2.2.2
  refine ⟨S', ?_, (onl.of r1 (Or.inl rfl)).trans (onl.of y2 (Or.inr rfl)), fun i hi => by rw [pp, q1 i hi], by rw [pp, p1], y3, by rw [pp, p1]; exact y4, by rw [pp, p1]; exact y5⟩
  unfold G_XProver_countDeep
  rw [uO (ci := 6) h4 (by decide), o5, uA (ci := 6) h4 (by decide), uk (ci := 3) n2.1, e1, yV_some]
  exact y1
end CCOUNT
