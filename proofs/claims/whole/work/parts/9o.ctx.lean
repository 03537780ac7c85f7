/-! WHAT THE REFERENCE'S SEARCH LOOKS AT -/
/-- node m is marked -/
abbrev dpN (S : qS) (r m : Nat) : Prop := ¬ S.1 r 21 m = 0
/-- the words' and truths' nodes, listed -/
def RL (r A nw na nt : Nat) (S : qS) : Prop :=
  S.1 r 23 0 = nI nw ∧ S.1 r 24 0 = nI na ∧ S.1 r 25 0 = nI nt ∧ nw + na ≤ 7 ∧ nt ≤ 6 ∧
  (∀ k, k < nw + na → ∃ m, m < A ∧ S.1 r 26 k = nI m ∧ dpN S r m ∧ (k < nw → S.1 r 3 m = 3) ∧ (nw ≤ k → S.1 r 3 m = 5)) ∧
  (∀ m, m < A → dpN S r m → (S.1 r 3 m = 3 → ∃ k, k < nw ∧ S.1 r 26 k = nI m) ∧ (S.1 r 3 m = 5 → ∃ k, nw ≤ k ∧ k < nw + na ∧ S.1 r 26 k = nI m)) ∧
  (∀ k k' m m', k < k' → k' < nw → S.1 r 26 k = nI m → S.1 r 26 k' = nI m' → m < A → m' < A → m < m') ∧
  (∀ k, k < nt → ∃ m, m < A ∧ S.1 r 28 k = nI m ∧ dpN S r m ∧ (S.1 r 3 m = 4 ∨ (m = 2 ∧ k + 1 = nt))) ∧
  (∀ m, m < A → dpN S r m → S.1 r 3 m = 4 ∨ S.1 r 3 m = 2 → ∃ k, k < nt ∧ S.1 r 28 k = nI m) ∧
  (∀ k k' m m', k < k' → k' < nt → S.1 r 28 k = nI m → S.1 r 28 k' = nI m' → m < A → m' < A → S.1 r 3 m = 4 ∧ (S.1 r 3 m' = 4 → m < m')) ∧
  (∀ k k' m, k < nw + na → k' < nw + na → m < A → S.1 r 26 k = nI m → S.1 r 26 k' = nI m → k = k')
section CTX
variable {O : qOb9} {r n E A : Nat} {S0 : qS}
def JG (j : Nat) : Prop := j = 21 ∨ j = 23 ∨ j = 24 ∨ j = 25 ∨ j = 26 ∨ j = 28 ∨ j = 29 ∨ j = 30
theorem k2_2 {κ α β γ : Nat → Int32} {N : Nat} (hS : Store κ α β γ E N) {m : Nat} (hm : m < N) : κ m = 2 ↔ m = 2 := by
  constructor
  · intro k
    rcases hS.2.1 m hm with ⟨h0, z, _⟩ | ⟨_, z | z | z | z | z | z⟩
    · rw [z] at k
      exact (nI_eq (a := m) (b := 2) (by omega) (by decide)).mp k
    · rcases z.1 with q | q <;> rw [q] at k <;> exact absurd k (by decide)
    all_goals
      have q := z.1
      rw [q] at k
      exact absurd k (by decide)
  · intro e
    subst e
    rcases hS.2.1 2 hm with ⟨h0, z, _⟩ | ⟨z, _⟩
    · exact z
    · omega
theorem ref_gather (h : Ref O r) (hn : 7000 ≤ n) (hE : E ≤ 16) (hX : Ext r S0 E A) (h01 : ∀ q, S0.1 r 21 q = 0 ∨ S0.1 r 21 q = 1) :
    ∃ S1, G_XModel_gather O n r S0 = some ((), S1) ∧ rFr r S0 S1 JG ∧ S1.1 r 21 = mpAll (S0.1 r 3) (S0.1 r 4) (S0.1 r 5) (S0.1 r 6) A (S0.1 r 21) ∧
      S1.1 r 29 0 = nI (cnt (gW (S1.1 r 3) (S1.1 r 21)) A) ∧ S1.1 r 30 0 = nI (cnt (gT (S1.1 r 3) (S1.1 r 21)) A) ∧
      (cnt (gW (S1.1 r 3) (S1.1 r 21)) A ≤ 7 → cnt (gT (S1.1 r 3) (S1.1 r 21)) A ≤ 6 → ∃ nw na nt, nw + na = cnt (gW (S1.1 r 3) (S1.1 r 21)) A ∧ nt = cnt (gT (S1.1 r 3) (S1.1 r 21)) A ∧ RL r A nw na nt S1) := by
  have hA := hX.2.1
  have h3 := hX.2.2.1.1
  have hp : ∀ m, m < A → pB (S0.1 r 4 m) ∧ pB (S0.1 r 5 m) ∧ pB (S0.1 r 6 m) := by
    intro m hm
    have neg : pB (-1) := Or.inl (by decide)
    have pn : ∀ x, x < 6400 → pB (nI x) := fun x hx => Or.inr ⟨x, hx, rfl⟩
    rcases hX.2.2.1.2.1 m hm with ⟨h0, -, z1, z2, z3⟩ | ⟨h0, z | z | z | z | z | z⟩
    · rw [z1, z2, z3]; exact ⟨neg, neg, neg⟩
    · obtain ⟨_, ⟨e, he, z1⟩, z2, z3⟩ := z
      rw [z1, z2, z3]; exact ⟨pn e (by omega), neg, neg⟩
    · obtain ⟨_, ⟨x, hx, z1, _⟩, z2, g, hg, z3⟩ := z
      rw [z1, z3]
      refine ⟨pn x (by omega), ?_, pn g (by omega)⟩
      rcases z2 with z2 | ⟨y, hy, z2, _⟩
      · rw [z2]; exact neg
      · rw [z2]; exact pn y (by omega)
    · obtain ⟨_, ⟨x, y, hx, hy, z1, z2, _⟩, z3⟩ := z
      rw [z1, z2, z3]; exact ⟨pn x (by omega), pn y (by omega), neg⟩
    · obtain ⟨_, ⟨x, _, hx, z1, _⟩, z2, z3⟩ := z
      rw [z1, z2, z3]; exact ⟨pn x (by omega), neg, neg⟩
    · obtain ⟨_, ⟨x, y, _, hx, hy, z1, z2, _⟩, z3⟩ := z
      rw [z1, z2, z3]; exact ⟨pn x (by omega), pn y (by omega), neg⟩
    · obtain ⟨_, x, y, z, _, hx, hy, hz, _, z1, z2, z3, _⟩ := z
      rw [z1, z2, z3]; exact ⟨pn x (by omega), pn y (by omega), pn z (by omega)⟩
  have e1 := ref_markParts (O := O) (n := n) h hn hA hX.1 hp
  have D1 := mpAll_01 (κ := S0.1 r 3) (α := S0.1 r 4) (β := S0.1 r 5) (γ := S0.1 r 6) A (S0.1 r 21) h01
  generalize hD : mpAll (S0.1 r 3) (S0.1 r 4) (S0.1 r 5) (S0.1 r 6) A (S0.1 r 21) = D at e1 D1 ⊢
  unfold G_XModel_gather
  rw [rk h, e1, yV_some, rP h (by decide), rP h (by decide), rP h (by decide), rP h (by decide)]
  have fr0 : rFr r S0 (setF S0 r 21 D) JG := ⟨setF_only, fun j hj => setF_ne (fun q => hj (Or.inl q))⟩
  have f21 : (setF S0 r 21 D).1 r 21 = D := setF_same
  have f2 : (setF S0 r 21 D).1 r 2 = S0.1 r 2 := setF_ne (by decide)
  have f3 : (setF S0 r 21 D).1 r 3 = S0.1 r 3 := setF_ne (by decide)
  generalize setF S0 r 21 D = T1 at fr0 f21 f2 f3 ⊢
  have fr1 : rFr r S0 (up3 T1.1 r 23 0 0, T1.2) JG := fr0.up (Or.inr (Or.inl rfl))
  have k1 : ∀ j, j ≠ 23 → ((up3 T1.1 r 23 0 0, T1.2) : qS).1 r j = T1.1 r j := fun j hj => up3_f hj
  have v1 : ((up3 T1.1 r 23 0 0, T1.2) : qS).1 r 23 0 = 0 := up3_v
  generalize ((up3 T1.1 r 23 0 0, T1.2) : qS) = T2 at fr1 k1 v1 ⊢
  have fr2 : rFr r S0 (up3 T2.1 r 25 0 0, T2.2) JG := fr1.up (Or.inr (Or.inr (Or.inr (Or.inl rfl))))
  have k2 : ∀ j, j ≠ 25 → ((up3 T2.1 r 25 0 0, T2.2) : qS).1 r j = T2.1 r j := fun j hj => up3_f hj
  have v2 : ((up3 T2.1 r 25 0 0, T2.2) : qS).1 r 25 0 = 0 := up3_v
  generalize ((up3 T2.1 r 25 0 0, T2.2) : qS) = T3 at fr2 k2 v2 ⊢
  have fr3 : rFr r S0 (up3 T3.1 r 29 0 0, T3.2) JG := fr2.up (Or.inr (Or.inr (Or.inr (Or.inr (Or.inr (Or.inr (Or.inl rfl)))))))
  have k3 : ∀ j, j ≠ 29 → ((up3 T3.1 r 29 0 0, T3.2) : qS).1 r j = T3.1 r j := fun j hj => up3_f hj
  have v3 : ((up3 T3.1 r 29 0 0, T3.2) : qS).1 r 29 0 = 0 := up3_v
  generalize ((up3 T3.1 r 29 0 0, T3.2) : qS) = T4 at fr3 k3 v3 ⊢
  have fr4 : rFr r S0 (up3 T4.1 r 30 0 0, T4.2) JG := fr3.up (Or.inr (Or.inr (Or.inr (Or.inr (Or.inr (Or.inr (Or.inr rfl)))))))
  have k4 : ∀ j, j ≠ 30 → ((up3 T4.1 r 30 0 0, T4.2) : qS).1 r j = T4.1 r j := fun j hj => up3_f hj
  have v4 : ((up3 T4.1 r 30 0 0, T4.2) : qS).1 r 30 0 = 0 := up3_v
  generalize ((up3 T4.1 r 30 0 0, T4.2) : qS) = T5 at fr4 k4 v4 ⊢
  have g3 : T5.1 r 3 = S0.1 r 3 := by rw [k4 3 (by decide), k3 3 (by decide), k2 3 (by decide), k1 3 (by decide), f3]
  have g21 : T5.1 r 21 = D := by rw [k4 21 (by decide), k3 21 (by decide), k2 21 (by decide), k1 21 (by decide), f21]
  have g2 : T5.1 r 2 0 = nI A := by rw [k4 2 (by decide), k3 2 (by decide), k2 2 (by decide), k1 2 (by decide), f2]; exact hX.1
  have g23 : T5.1 r 23 0 = 0 := by rw [k4 23 (by decide), k3 23 (by decide), k2 23 (by decide)]; exact v1
  have g25 : T5.1 r 25 0 = 0 := by rw [k4 25 (by decide), k3 25 (by decide)]; exact v2
  have g29 : T5.1 r 29 0 = 0 := by rw [k4 29 (by decide)]; exact v3
  obtain ⟨T6, fr6, c6w, c6t, e6⟩ := ref_gather_26 (O := O) (n := n) (S0 := T5) h hA g2 A 0 n T5 (by omega) (by omega) rFr.refl (by rw [g29]; rfl) (by rw [v4]; rfl)
  rw [nI_0] at e6
  rw [e6]
  have m3 : T6.1 r 3 = S0.1 r 3 := by rw [fr6.2 3 (by unfold J26; omega), g3]
  have m21 : T6.1 r 21 = D := by rw [fr6.2 21 (by unfold J26; omega), g21]
  have fr60 : rFr r S0 T6 JG := fr4.trans (fr6.mono (fun j hj => by unfold J26 at hj; unfold JG; omega))
  rw [g3, g21] at c6w c6t ⊢
  by_cases hlim : cnt (gW (S0.1 r 3) D) A ≤ 7 ∧ cnt (gT (S0.1 r 3) D) A ≤ 6
  · rw [if_pos hlim]
    have sW := gW_cnt (S0.1 r 3) D A
    have sT := gT_cnt (S0.1 r 3) D A
    have hk2 : ∀ m, gP 2 (S0.1 r 3) D m = true → m < A → m = 2 := fun m q hm => (k2_2 hX.2.2.1 hm).mp (gP_iff.mp q).2
    have c2 : cnt (gP 2 (S0.1 r 3) D) A = if D 2 = 0 then 0 else 1 := by
      have : cnt (gP 2 (S0.1 r 3) D) A = cnt (fun m => gP 2 (S0.1 r 3) D m && decide (m = 2)) A := cnt_congr (fun m hm => by
        cases q : gP 2 (S0.1 r 3) D m with
        | false => rfl
        | true => rw [decide_eq_true (hk2 m q hm)]; rfl)
      rw [this, cnt_one (x := 2) (fun m q => by
        rw [Bool.and_eq_true, decide_eq_true_iff] at q
        exact q.2) (by omega), decide_eq_true rfl, Bool.and_true]
      by_cases d2 : D 2 = 0
      · rw [if_pos d2, if_neg]
        intro q
        exact (gP_iff.mp q).1 d2
      · rw [if_neg d2, if_pos (gP_iff.mpr ⟨d2, (k2_2 hX.2.2.1 (by omega)).mpr rfl⟩)]
    have base : GI r T6 T6 0 := by
      refine ⟨rFr.refl, ?_, ?_, fun m hm => absurd hm (Nat.not_lt_zero m), fun m hm => absurd hm (Nat.not_lt_zero m)⟩
      · rw [fr6.2 23 (by unfold J26; omega), g23]; rfl
      · rw [fr6.2 25 (by unfold J26; omega), g25]; rfl
    obtain ⟨T7, fr7, w7, l7, t7, lt7, ft7, e7⟩ := ref_gather_167 (O := O) (n := n) (S0 := T6) h hA h3 (by rw [fr6.2 2 (by unfold J26; omega)]; exact g2) (by rw [m3, m21]; omega) (by rw [m3, m21]; omega) A 0 n T6 (by omega) (by omega) base
    rw [nI_0] at e7
    rw [e7]
    rw [m3, m21] at w7 l7 t7 lt7 ft7
    have n3 : T7.1 r 3 = S0.1 r 3 := by rw [fr7.2 3 (by unfold J167; omega), m3]
    have n21 : T7.1 r 21 = D := by rw [fr7.2 21 (by unfold J167; omega), m21]
    have n2 : T7.1 r 2 0 = nI A := by rw [fr7.2 2 (by unfold J167; omega), fr6.2 2 (by unfold J26; omega)]; exact g2
    have n29 : T7.1 r 29 0 = nI (cnt (gW (S0.1 r 3) D) A) := by rw [fr7.2 29 (by unfold J167; omega)]; exact c6w
    have n30 : T7.1 r 30 0 = nI (cnt (gT (S0.1 r 3) D) A) := by rw [fr7.2 30 (by unfold J167; omega)]; exact c6t
    have fr70 : rFr r S0 T7 JG := fr60.trans (fr7.mono (fun j hj => by unfold J167 at hj; unfold JG; omega))
    unfold G_XModel_gather_288
    rw [rP h (by decide)]
    have fr8 : rFr r S0 (up3 T7.1 r 24 0 0, T7.2) JG := fr70.up (Or.inr (Or.inr (Or.inl rfl)))
    have k8 : ∀ j, j ≠ 24 → ((up3 T7.1 r 24 0 0, T7.2) : qS).1 r j = T7.1 r j := fun j hj => up3_f hj
    have v8 : ((up3 T7.1 r 24 0 0, T7.2) : qS).1 r 24 0 = 0 := up3_v
    generalize ((up3 T7.1 r 24 0 0, T7.2) : qS) = T8 at fr8 k8 v8 ⊢
    have z3 : T8.1 r 3 = S0.1 r 3 := by rw [k8 3 (by decide), n3]
    have z21 : T8.1 r 21 = D := by rw [k8 21 (by decide), n21]
    obtain ⟨T9, e9, fr9, a9, l9, low9⟩ := ref_gather_295 (O := O) (n := n) (S0 := T8) (b := cnt (gP 3 (S0.1 r 3) D) A) h hA (by rw [k8 2 (by decide)]; exact n2) (by rw [k8 23 (by decide)]; exact w7) (by rw [z3, z21]; omega) A 0 n T8 (by omega) (by omega) rFr.refl (by rw [v8]; rfl) (fun m hm => absurd hm (Nat.not_lt_zero m)) (fun _ _ => rfl)
    rw [nI_0] at e9
    rw [z3, z21] at a9 l9
    have y3 : T9.1 r 3 = S0.1 r 3 := by rw [fr9.2 3 (by unfold J295; omega), z3]
    have y21 : T9.1 r 21 = D := by rw [fr9.2 21 (by unfold J295; omega), z21]
    have y28 : T9.1 r 28 = T7.1 r 28 := by rw [fr9.2 28 (by unfold J295; omega), k8 28 (by decide)]
    have y26 : ∀ k, k < cnt (gP 3 (S0.1 r 3) D) A → T9.1 r 26 k = T7.1 r 26 k := fun k hk => by rw [low9 k hk, k8 26 (by decide)]
    refine ⟨T9, e9, fr8.trans (fr9.mono (fun j hj => by unfold J295 at hj; unfold JG; omega)), y21, ?_, ?_, fun _ _ => ⟨cnt (gP 3 (S0.1 r 3) D) A, cnt (gP 5 (S0.1 r 3) D) A, cnt (gP 4 (S0.1 r 3) D) A + (if D 2 = 0 then 0 else 1), ?_, ?_, ?_⟩⟩
    · rw [fr9.2 29 (by unfold J295; omega), k8 29 (by decide), y3, y21]; exact n29
    · rw [fr9.2 30 (by unfold J295; omega), k8 30 (by decide), y3, y21]; exact n30
    · rw [y3, y21]; omega
    · rw [y3, y21, sT, c2]
    · refine ⟨?_, a9, ?_, by omega, by omega, fun k hk => ?_, fun m hm hd => ?_, fun k k' m m' hk hk' em em' hm hm' => ?_, fun k hk => ?_, fun m hm hd hkind => ?_, fun k k' m m' hk hk' em em' hm hm' => ?_, fun k k' m hk hk' hm em em' => ?_⟩
      · rw [fr9.2 23 (by unfold J295; omega), k8 23 (by decide)]; exact w7
      · rw [fr9.2 25 (by unfold J295; omega), k8 25 (by decide)]; exact t7
      · by_cases q : k < cnt (gP 3 (S0.1 r 3) D) A
        · obtain ⟨m, hm, hp', ec⟩ := cnt_hit q
          have := l7 m hm hp'
          rw [Nat.zero_add, ec] at this
          refine ⟨m, hm, by rw [y26 k q]; exact this, ?_, fun _ => ?_, fun w => by omega⟩
          · show ¬ T9.1 r 21 m = 0
            rw [y21]; exact (gP_iff.mp hp').1
          · rw [y3]; exact (gP_iff.mp hp').2
        · obtain ⟨m, hm, hp', ec⟩ := cnt_hit (P := gP 5 (S0.1 r 3) D) (n := A) (k := k - cnt (gP 3 (S0.1 r 3) D) A) (by omega)
          have := l9 m hm hp'
          rw [ec, show cnt (gP 3 (S0.1 r 3) D) A + (k - cnt (gP 3 (S0.1 r 3) D) A) = k by omega] at this
          refine ⟨m, hm, this, ?_, fun w => by omega, fun _ => ?_⟩
          · show ¬ T9.1 r 21 m = 0
            rw [y21]; exact (gP_iff.mp hp').1
          · rw [y3]; exact (gP_iff.mp hp').2
      · have hd' : ¬ D m = 0 := by rw [← y21]; exact hd
        rw [y3]
        refine ⟨fun k3 => ?_, fun k5 => ?_⟩
        · have hp' : gP 3 (S0.1 r 3) D m = true := gP_iff.mpr ⟨hd', k3⟩
          have lt := cnt_lt hm hp'
          refine ⟨_, lt, ?_⟩
          rw [y26 _ lt]
          have := l7 m hm hp'
          rw [Nat.zero_add] at this
          exact this
        · have hp' : gP 5 (S0.1 r 3) D m = true := gP_iff.mpr ⟨hd', k5⟩
          have lt := cnt_lt hm hp'
          exact ⟨_, by omega, by omega, l9 m hm hp'⟩
      · obtain ⟨u, hu, hpu, ecu⟩ := cnt_hit (show k < cnt (gP 3 (S0.1 r 3) D) A by omega)
        obtain ⟨u', hu', hpu', ecu'⟩ := cnt_hit hk'
        have q1 := l7 u hu hpu
        have q2 := l7 u' hu' hpu'
        rw [Nat.zero_add, ecu, ← y26 k (by omega), em] at q1
        rw [Nat.zero_add, ecu', ← y26 k' hk', em'] at q2
        have w1 := (nI_eq (by omega) (by omega)).mp q1
        have w2 := (nI_eq (by omega) (by omega)).mp q2
        rw [w1, w2]
        apply Nat.lt_of_not_le
        intro hle
        have := cnt_mono (P := gP 3 (S0.1 r 3) D) hle
        omega
      · by_cases q : k < cnt (gP 4 (S0.1 r 3) D) A
        · obtain ⟨m, hm, hp', ec⟩ := cnt_hit q
          have := lt7 m hm hp'
          rw [Nat.zero_add, ec] at this
          refine ⟨m, hm, by rw [y28]; exact this, ?_, Or.inl ?_⟩
          · show ¬ T9.1 r 21 m = 0
            rw [y21]; exact (gP_iff.mp hp').1
          · rw [y3]; exact (gP_iff.mp hp').2
        · by_cases d2 : D 2 = 0
          · rw [if_pos d2] at hk; omega
          · rw [if_neg d2] at hk ⊢
            have ek : k = cnt (gP 4 (S0.1 r 3) D) A := by omega
            refine ⟨2, by omega, by rw [y28, ek]; exact ft7 d2, ?_, Or.inr ⟨rfl, by omega⟩⟩
            show ¬ T9.1 r 21 2 = 0
            rw [y21]; exact d2
      · have hd' : ¬ D m = 0 := by rw [← y21]; exact hd
        rw [y3] at hkind
        rw [y28]
        rcases hkind with k4' | k2'
        · have hp' : gP 4 (S0.1 r 3) D m = true := gP_iff.mpr ⟨hd', k4'⟩
          have lt := cnt_lt hm hp'
          have := lt7 m hm hp'
          rw [Nat.zero_add] at this
          exact ⟨_, by omega, this⟩
        · have e2 := (k2_2 hX.2.2.1 hm).mp k2'
          subst e2
          refine ⟨cnt (gP 4 (S0.1 r 3) D) A, ?_, ft7 hd'⟩
          rw [if_neg hd']; omega
      · rw [y28] at em em'
        rw [y3]
        have hk4 : k < cnt (gP 4 (S0.1 r 3) D) A := by
          by_cases d2 : D 2 = 0
          · rw [if_pos d2] at hk'; omega
          · rw [if_neg d2] at hk'; omega
        obtain ⟨u, hu, hpu, ecu⟩ := cnt_hit hk4
        have q1 := lt7 u hu hpu
        rw [Nat.zero_add, ecu, em] at q1
        have w1 := (nI_eq (by omega) (by omega)).mp q1
        refine ⟨by rw [w1]; exact (gP_iff.mp hpu).2, fun km' => ?_⟩
        by_cases q : k' < cnt (gP 4 (S0.1 r 3) D) A
        · obtain ⟨u', hu', hpu', ecu'⟩ := cnt_hit q
          have q2 := lt7 u' hu' hpu'
          rw [Nat.zero_add, ecu', em'] at q2
          have w2 := (nI_eq (by omega) (by omega)).mp q2
          rw [w1, w2]
          apply Nat.lt_of_not_le
          intro hle
          have := cnt_mono (P := gP 4 (S0.1 r 3) D) hle
          omega
        · by_cases d2 : D 2 = 0
          · rw [if_pos d2] at hk'; omega
          · rw [if_neg d2] at hk'
            have ek : k' = cnt (gP 4 (S0.1 r 3) D) A := by omega
            have q2 := ft7 d2
            rw [← ek, em'] at q2
            have w2 := (nI_eq (a := m') (b := 2) (by omega) (by decide)).mp q2
            rw [w2, (k2_2 hX.2.2.1 (by omega)).mpr rfl] at km'
            exact absurd km' (by decide)
      · have pos : ∀ k, k < cnt (gP 3 (S0.1 r 3) D) A + cnt (gP 5 (S0.1 r 3) D) A → T9.1 r 26 k = nI m → (S0.1 r 3 m = 3 → k = cnt (gP 3 (S0.1 r 3) D) m) ∧ (S0.1 r 3 m = 5 → k = cnt (gP 3 (S0.1 r 3) D) A + cnt (gP 5 (S0.1 r 3) D) m) ∧ (S0.1 r 3 m = 3 ∨ S0.1 r 3 m = 5) := by
          intro k hk em
          by_cases q : k < cnt (gP 3 (S0.1 r 3) D) A
          · obtain ⟨u, hu, hpu, ecu⟩ := cnt_hit q
            have q1 := l7 u hu hpu
            rw [Nat.zero_add, ecu, ← y26 k q, em] at q1
            have w1 := (nI_eq (by omega) (by omega)).mp q1
            have k3 := (gP_iff.mp hpu).2
            rw [← w1] at k3 ecu
            exact ⟨fun _ => ecu.symm, fun k5 => by rw [k3] at k5; exact absurd k5 (by decide), Or.inl k3⟩
          · obtain ⟨u, hu, hpu, ecu⟩ := cnt_hit (P := gP 5 (S0.1 r 3) D) (n := A) (k := k - cnt (gP 3 (S0.1 r 3) D) A) (by omega)
            have q1 := l9 u hu hpu
            rw [ecu, show cnt (gP 3 (S0.1 r 3) D) A + (k - cnt (gP 3 (S0.1 r 3) D) A) = k by omega, em] at q1
            have w1 := (nI_eq (by omega) (by omega)).mp q1
            have k5 := (gP_iff.mp hpu).2
            rw [← w1] at k5 ecu
            exact ⟨fun k3 => by rw [k5] at k3; exact absurd k3 (by decide), fun _ => by omega, Or.inr k5⟩
        obtain ⟨p1', p2', p3'⟩ := pos k hk em
        obtain ⟨o1', o2', o3'⟩ := pos k' hk' em'
        rcases p3' with z | z
        · rw [p1' z, o1' z]
        · rw [p2' z, o2' z]
  · rw [if_neg hlim]
    refine ⟨T6, rfl, fr60, m21, ?_, ?_, fun q1 q2 => ?_⟩
    · rw [m3, m21]; exact c6w
    · rw [m3, m21]; exact c6t
    · rw [m3, m21] at q1 q2
      exact absurd ⟨q1, q2⟩ hlim
end CTX
