section TOLD
variable {O : qOb9} {r n E N : Nat} {S : qS}
/-- what a caller's row comes to: v, and the state then -/
def Told (r : Nat) (S S' : qS) (E N : Nat) (k a b c code v : Int32) : Prop :=
  (¬ rPl (S.1 r) k a b c < 0 ∧ v = rPl (S.1 r) k a b c ∧ S' = S) ∨
  (rPl (S.1 r) k a b c < 0 ∧ (∃ q, q < N ∧ v = nI q ∧ rowIs (S.1 r) k (rFst k a b) (rSnd k a b) c q) ∧ Face r S' E N ∧ ∀ j i, j ≠ 7 → j ≠ 8 → j ≠ 2 → S'.1 r j i = S.1 r j i) ∨
  (rPl (S.1 r) k a b c < 0 ∧ (∀ q, q < N → ¬ rowIs (S.1 r) k (rFst k a b) (rSnd k a b) c q) ∧ N = 300 ∧ v = 0 ∧ S'.1 r 0 0 = code ∧ Face r S' E N ∧ ∀ j i, j ≠ 7 → j ≠ 8 → j ≠ 2 → j ≠ 0 → S'.1 r j i = S.1 r j i) ∨
  (rPl (S.1 r) k a b c < 0 ∧ (∀ q, q < N → ¬ rowIs (S.1 r) k (rFst k a b) (rSnd k a b) c q) ∧ N < 300 ∧ v = nI N ∧ Face r S' E (N + 1) ∧ rowIs (S'.1 r) k (rFst k a b) (rSnd k a b) c N ∧ ∀ j i, j ≠ 7 → j ≠ 8 → j ≠ 2 → j ≠ 1 → ¬ (3 ≤ j ∧ j ≤ 6 ∧ i = N) → S'.1 r j i = S.1 r j i)
/-- a row that may be laid down as node N -/
def Lay (r : Nat) (S : qS) (E N : Nat) (k a b c : Int32) : Prop := ∀ κ α β γ : Nat → Int32, (∀ m, m < N → κ m = S.1 r 3 m ∧ α m = S.1 r 4 m ∧ β m = S.1 r 5 m ∧ γ m = S.1 r 6 m) → κ N = k → α N = rFst k a b → β N = rSnd k a b → γ N = c → rPl (S.1 r) k a b c < 0 → rowOk κ α β γ E N
theorem face_told (h : Ref O r) (hn : 7000 ≤ n) (hF : Face r S E N) {k a b c code : Int32} (ha : k = 7 → ∃ m, m < 6400 ∧ a = nI m) (hL : Lay r S E N k a b c) : ∃ v S', G_XModel_told O n r k a b c code S = some (v, S') ∧ rOnly r S S' ∧ Told r S S' E N k a b c code v ∧ (S' = S ∨ S'.1 r 2 0 = S'.1 r 1 0) := by
  obtain ⟨t1, t2⟩ := ref_told (O := O) (n := n) (k := k) (a := a) (b := b) (c := c) (code := code) h hF.2.2.1 hn hF.1 ha
  by_cases hp : rPl (S.1 r) k a b c < 0
  · obtain ⟨v, S', e, o, h21, hc⟩ := t2 hp
    refine ⟨v, S', e, o, Or.inr ?_, Or.inr h21⟩
    rcases hc with ⟨q, hq, hv, hr, hs⟩ | ⟨hno, hN, hv, ht, hs⟩ | ⟨hno, hN, hv, h1, hr, hs⟩
    · exact Or.inl ⟨hp, ⟨q, hq, hv, hr⟩, Face_same hF (fun j i h7 h8 h2 _ => hs j i h7 h8 h2), hs⟩
    · exact Or.inr (Or.inl ⟨hp, hno, hN, hv, ht, Face_same hF hs, hs⟩)
    · refine Or.inr (Or.inr ⟨hp, hno, hN, hv, ?_, hr, hs⟩)
      have low : ∀ j i, 3 ≤ j → j ≤ 6 → i < N → S'.1 r j i = S.1 r j i := fun j i h3 h6 hi => hs j i (by omega) (by omega) (by omega) (by omega) (by omega)
      refine Face_snoc hF hN (Nat.le_refl E) hF.2.2.2.1 h1 (by rw [hs 9 0 (by decide) (by decide) (by decide) (by decide) (by omega)]; exact hF.2.1) hr low hno ?_
      obtain ⟨w1, w2, w3, w4⟩ := hr
      exact hL _ _ _ _ (fun m hm => ⟨low 3 m (by decide) (by decide) hm, low 4 m (by decide) (by decide) hm, low 5 m (by decide) (by decide) hm, low 6 m (by decide) (by decide) hm⟩) w1 w2 w3 w4 hp
  · exact ⟨_, S, t1 hp, rOnly.refl, Or.inl ⟨hp, rfl, rfl⟩, Or.inl rfl⟩
/-- sorts of the parts, in a store that has the face below N -/
theorem Lay_w {κ α β γ : Nat → Int32} (hF : Store (S.1 r 3) (S.1 r 4) (S.1 r 5) (S.1 r 6) E N) (hN : N ≤ 6400) (ag : ∀ m, m < N → κ m = S.1 r 3 m ∧ α m = S.1 r 4 m ∧ β m = S.1 r 5 m ∧ γ m = S.1 r 6 m) : ∀ x, x < N → wd κ β x = wd (S.1 r 3) (S.1 r 5) x :=
  wd_congr hF.2.1 (by omega) (fun m hm => (ag m hm).1) (fun m hm => (ag m hm).2.2.1)
theorem fW_nI {x : Nat} (hx : x < 2 ^ 31) : fW S r (nI x) = wd (S.1 r 3) (S.1 r 5) x := by
  unfold fW
  rw [nI_clamp hx]
theorem turned {k : Int32} {x y : Nat} (hk : k = 6 ∨ k = 8) (hx : x < 2 ^ 31) (hy : y < 2 ^ 31) : rFst k (nI x) (nI y) = nI (min x y) ∧ rSnd k (nI x) (nI y) = nI (max x y) := by
  have ht : rTurns k (nI x) (nI y) = decide (y < x) := by
    unfold rTurns
    have e : (decide (k = 6) || decide (k = 8)) = true := by
      rcases hk with e | e
      · rw [decide_eq_true e]; rfl
      · rw [decide_eq_true e, Bool.or_true]
    rw [e, Bool.true_and]
    exact decide_eq_decide.mpr (nI_ltI hy hx)
  unfold rFst rSnd
  rw [ht]
  by_cases hyx : y < x
  · rw [decide_eq_true hyx, Nat.min_eq_right (Nat.le_of_lt hyx), Nat.max_eq_left (Nat.le_of_lt hyx)]
    exact ⟨rfl, rfl⟩
  · rw [decide_eq_false hyx, Nat.min_eq_left (Nat.le_of_not_lt hyx), Nat.max_eq_right (Nat.le_of_not_lt hyx)]
    exact ⟨rfl, rfl⟩
theorem lay_equal (hF : Store (S.1 r 3) (S.1 r 4) (S.1 r 5) (S.1 r 6) E N) (hN : N ≤ 6400) {a b : Int32} (ha : inN a N = true) (hb : inN b N = true) (wa : fW S r a = true) (wb : fW S r b = true) : Lay r S E N 6 a b (-1) := by
  intro κ α β γ ag e1 e2 e3 e4 hp
  have h3 := hF.1
  obtain ⟨x, hx, rfl⟩ := (inN_iff (by omega)).mp ha
  obtain ⟨y, hy, rfl⟩ := (inN_iff (by omega)).mp hb
  obtain ⟨t1, t2⟩ := turned (k := 6) (x := x) (y := y) (Or.inl rfl) (by omega) (by omega)
  rw [t1] at e2
  rw [t2] at e3
  rw [fW_nI (by omega)] at wa wb
  have hne : x ≠ y := by
    intro q
    subst q
    unfold rPl at hp
    rw [if_pos rfl, if_pos rfl] at hp
    exact absurd hp (by decide)
  have w := Lay_w hF hN ag
  refine Or.inr ⟨h3, Or.inr (Or.inr (Or.inl ⟨e1, ⟨min x y, max x y, by omega, by omega, e2, e3, ?_, ?_⟩, e4⟩))⟩
  · rw [w _ (by omega)]
    rcases Nat.le_total x y with q | q
    · rw [Nat.min_eq_left q]; exact wa
    · rw [Nat.min_eq_right q]; exact wb
  · rw [w _ (by omega)]
    rcases Nat.le_total x y with q | q
    · rw [Nat.max_eq_right q]; exact wb
    · rw [Nat.max_eq_left q]; exact wa
theorem nI_small {x : Nat} (hx : x < 2 ^ 31) (h0 : ¬ nI x = 0) (h1 : ¬ nI x = 1) : 2 ≤ x := by
  rcases (show x = 0 ∨ x = 1 ∨ 2 ≤ x by omega) with q | q | q
  · subst q; exact absurd rfl h0
  · subst q; exact absurd rfl h1
  · exact q
theorem lay_both (hF : Store (S.1 r 3) (S.1 r 4) (S.1 r 5) (S.1 r 6) E N) (hN : N ≤ 6400) {a b : Int32} (ha : inN a N = true) (hb : inN b N = true) (wa : fW S r a = false) (wb : fW S r b = false) : Lay r S E N 8 a b (-1) := by
  intro κ α β γ ag e1 e2 e3 e4 hp
  have h3 := hF.1
  obtain ⟨x, hx, rfl⟩ := (inN_iff (by omega)).mp ha
  obtain ⟨y, hy, rfl⟩ := (inN_iff (by omega)).mp hb
  obtain ⟨t1, t2⟩ := turned (k := 8) (x := x) (y := y) (Or.inr rfl) (by omega) (by omega)
  rw [t1] at e2
  rw [t2] at e3
  rw [fW_nI (by omega)] at wa wb
  unfold rPl at hp
  rw [if_neg (by decide), if_neg (by decide), if_pos rfl] at hp
  by_cases a0 : nI x = 0
  · rw [if_pos a0] at hp; exact absurd hp (by decide)
  rw [if_neg a0] at hp
  by_cases b0 : nI y = 0
  · rw [if_pos b0] at hp; exact absurd hp (by decide)
  rw [if_neg b0] at hp
  by_cases a1 : nI x = 1
  · rw [if_pos a1] at hp; exact absurd hp (nI_pos (by omega))
  rw [if_neg a1] at hp
  by_cases b1 : nI y = 1
  · rw [if_pos b1] at hp; exact absurd hp (nI_pos (by omega))
  rw [if_neg b1] at hp
  by_cases ab : nI x = nI y
  · rw [if_pos ab] at hp; exact absurd hp (nI_pos (by omega))
  have hne : x ≠ y := fun q => ab (by rw [q])
  have x2 := nI_small (by omega) a0 a1
  have y2 := nI_small (by omega) b0 b1
  have w := Lay_w hF hN ag
  refine Or.inr ⟨h3, Or.inr (Or.inr (Or.inr (Or.inr (Or.inl ⟨e1, ⟨min x y, max x y, by omega, by omega, by omega, e2, e3, ?_, ?_⟩, e4⟩))))⟩
  · rw [w _ (by omega)]
    rcases Nat.le_total x y with q | q
    · rw [Nat.min_eq_left q]; exact wa
    · rw [Nat.min_eq_right q]; exact wb
  · rw [w _ (by omega)]
    rcases Nat.le_total x y with q | q
    · rw [Nat.max_eq_right q]; exact wb
    · rw [Nat.max_eq_left q]; exact wa
theorem plain_turn {k a b : Int32} (h6 : ¬ k = 6) (h8 : ¬ k = 8) : rFst k a b = a ∧ rSnd k a b = b := by
  unfold rFst rSnd rTurns
  rw [decide_eq_false h6, decide_eq_false h8]
  exact ⟨rfl, rfl⟩
theorem lay_not (hF : Store (S.1 r 3) (S.1 r 4) (S.1 r 5) (S.1 r 6) E N) (hN : N ≤ 6400) {a : Int32} (ha : inN a N = true) (wa : fW S r a = false) : Lay r S E N 7 a (-1) (-1) := by
  intro κ α β γ ag e1 e2 e3 e4 hp
  have h3 := hF.1
  obtain ⟨x, hx, rfl⟩ := (inN_iff (by omega)).mp ha
  obtain ⟨t1, t2⟩ := plain_turn (k := 7) (a := nI x) (b := -1) (by decide) (by decide)
  rw [t1] at e2
  rw [t2] at e3
  rw [fW_nI (by omega)] at wa
  unfold rPl at hp
  rw [if_neg (by decide), if_pos rfl, nI_clamp (by omega)] at hp
  by_cases a1 : nI x = 1
  · rw [if_pos a1] at hp; exact absurd hp (by decide)
  rw [if_neg a1] at hp
  by_cases a0 : nI x = 0
  · rw [if_pos a0] at hp; exact absurd hp (by decide)
  rw [if_neg a0] at hp
  by_cases a7 : S.1 r 3 x = 7
  · rw [if_pos a7] at hp
    rcases hF.2.1 x hx with ⟨z0, z1, -⟩ | ⟨z0, z | z | z | z | z | z⟩
    · rw [a7] at z1
      have := (nI_eq (a := 7) (b := x) (by decide) (by omega)).mp z1
      omega
    · rw [a7] at z; rcases z.1 with q | q <;> exact absurd q (by decide)
    · rw [a7] at z; exact absurd z.1 (by decide)
    · rw [a7] at z; exact absurd z.1 (by decide)
    · obtain ⟨-, ⟨u, -, hu, hz, -⟩, -⟩ := z
      rw [hz] at hp
      exact absurd hp (nI_pos (by omega))
    · rw [a7] at z; exact absurd z.1 (by decide)
    · rw [a7] at z; exact absurd z.1 (by decide)
  have w := Lay_w hF hN ag
  exact Or.inr ⟨h3, Or.inr (Or.inr (Or.inr (Or.inl ⟨e1, ⟨x, nI_small (by omega) a0 a1, hx, e2, by rw [(ag x hx).1]; exact a7, by rw [w x hx]; exact wa⟩, e3, e4⟩)))⟩
end TOLD
