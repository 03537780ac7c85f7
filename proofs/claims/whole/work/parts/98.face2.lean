section FACE2
variable {O : qOb9} {r n E N : Nat} {S : qS}
theorem rP0 (h : Ref O r) {β : Type} {v : Int32} {k : qS → Option β} : hP 0 O S r 0 v k = k (thr S r v) := rP h (by decide)
theorem if_eq_bN {α : Type} {b b' : Bool} {x y : α} : (if bN b = bN b' then x else y) = cond (b == b') x y := by cases b <;> cases b' <;> rfl
theorem face_choice (h : Ref O r) (hn : 7000 ≤ n) (hF : Face r S E N) {c a b : Int32} : G_XModel_choice O n r c a b S = cond (inN c N && (inN a N && inN b N)) (cond (!fW S r c && (fW S r a == fW S r b)) (G_XModel_told O n r 9 c a b 3 (thr S r 0)) (some (0, thr S r 2))) (some (0, thr S r 1)) := by
  unfold G_XModel_choice G_XModel_choice_29 G_XModel_choice_56
  have h0 := Face.thr (x := 0) hF
  rw [rP h (by decide)]
  show hk 0 O r (yC (G_XModel_isNode O n r c (thr S r 0)) _) = _
  rw [rk h, face_isNode h h0, yC_some, bN_if]
  cases hc : inN c N with
  | false =>
    show hk 0 O r _ = some (0, thr S r 1)
    rw [rk h, face_fail h, yC_some, thr_thr]
  | true =>
    show hk 0 O r _ = _
    rw [rk h, face_isNode h h0, yC_some, bN_if]
    cases ha : inN a N with
    | false =>
      show hk 0 O r _ = some (0, thr S r 1)
      rw [rk h, face_fail h, yC_some, thr_thr]
    | true =>
      show hk 0 O r _ = _
      rw [rk h, face_isNode h h0, yC_some, bN_if]
      cases hb : inN b N with
      | false =>
        show hk 0 O r _ = some (0, thr S r 1)
        rw [rk h, face_fail h, yC_some, thr_thr]
      | true =>
        show hk 0 O r _ = cond (!fW S r c && (fW S r a == fW S r b)) _ _
        rw [rk h, face_isWord h hn h0 hc, yC_some, bN_if, fW_thr]
        cases wc : fW S r c with
        | true =>
          show hk 0 O r _ = some (0, thr S r 2)
          rw [rk h, face_fail h, yC_some, thr_thr]
        | false =>
          show hk 0 O r _ = cond (fW S r a == fW S r b) _ _
          rw [rk h, face_isWord h hn h0 ha, yC_some, rk h, face_isWord h hn h0 hb, yC_some, if_eq_bN, fW_thr, fW_thr]
          cases we : (fW S r a == fW S r b) with
          | false =>
            show hk 0 O r _ = some (0, thr S r 2)
            rw [rk h, face_fail h, yC_some, thr_thr]
          | true =>
            show hk 0 O r _ = G_XModel_told O n r 9 c a b 3 (thr S r 0)
            rw [rk h, yC_id]
/-- a second argument: none, or a node -/
def inO (b : Int32) (N : Nat) : Bool := decide (b = -1) || inN b N
theorem inN_neg {b : Int32} {N : Nat} (h : b = -1) : inN b N = false := by
  subst h
  unfold inN
  rfl
theorem inN_nn {b : Int32} {N : Nat} (h : inN b N = true) : ¬ b < 0 := by
  unfold inN at h
  rw [Bool.and_eq_true, decide_eq_true_iff] at h
  exact Int32.not_lt.mpr h.1
theorem face_apply (h : Ref O r) (hn : 7000 ≤ n) (hF : Face r S E N) {f a b : Int32} : G_XModel_apply O n r f a b S = cond (inN a N && inO b N) (cond ((decide (0 ≤ f) && decide (f ≤ 7)) && (fW S r a && (decide (b = -1) || fW S r b))) (G_XModel_told O n r 5 a b f 3 (thr S r 0)) (some (0, thr S r 2))) (some (0, thr S r 1)) := by
  have h0 := Face.thr (x := 0) hF
  have h62 : G_XModel_apply_62 O n r (thr S r 0) = some (0, thr S r 2) := by
    unfold G_XModel_apply_62
    rw [rk h, face_fail h, yC_some, thr_thr]
  have h26 : G_XModel_apply_26 O n r (thr S r 0) = some (0, thr S r 1) := by
    unfold G_XModel_apply_26
    rw [rk h, face_fail h, yC_some, thr_thr]
  have h68 : G_XModel_apply_68 O n r f a b (thr S r 0) = G_XModel_told O n r 5 a b f 3 (thr S r 0) := by
    unfold G_XModel_apply_68
    rw [rk h, yC_id]
  have h32 : inN a N = true → (b = -1 ∨ inN b N = true) → G_XModel_apply_32 O n r f a b (thr S r 0) = cond ((decide (0 ≤ f) && decide (f ≤ 7)) && (fW S r a && (decide (b = -1) || fW S r b))) (G_XModel_told O n r 5 a b f 3 (thr S r 0)) (some (0, thr S r 2)) := by
    intro ha hb
    unfold G_XModel_apply_32
    rw [ref_within, yC_some, bN_if]
    cases hf : (decide (0 ≤ f) && decide (f ≤ 7)) with
    | false => exact h62
    | true =>
      show hk 0 O r _ = cond (fW S r a && (decide (b = -1) || fW S r b)) _ _
      rw [rk h, face_isWord h hn h0 ha, yC_some, bN_if, fW_thr]
      cases wa : fW S r a with
      | false => exact h62
      | true =>
        show (if b < 0 then _ else _) = cond (decide (b = -1) || fW S r b) _ _
        rcases hb with hb | hb
        · rw [if_pos (by rw [hb]; decide), decide_eq_true hb]
          exact h68
        · have hne : ¬ b = -1 := fun q => by rw [inN_neg q] at hb; cases hb
          rw [if_neg (inN_nn hb), decide_eq_false hne, Bool.false_or, rk h, face_isWord h hn h0 hb, yC_some, bN_if, fW_thr]
          cases wb : fW S r b with
          | false => exact h62
          | true => exact h68
  unfold G_XModel_apply
  rw [rP h (by decide)]
  show hk 0 O r (yC (G_XModel_isNode O n r a (thr S r 0)) _) = _
  rw [rk h, face_isNode h h0, yC_some, bN_if]
  cases ha : inN a N with
  | false => exact h26
  | true =>
    show (if b = -1 then _ else _) = cond (inO b N) _ _
    unfold inO
    by_cases hb : b = -1
    · rw [if_pos hb, decide_eq_true hb]
      have q := h32 ha (Or.inl hb)
      rw [decide_eq_true hb] at q
      exact q
    · rw [if_neg hb, decide_eq_false hb, Bool.false_or, rk h, face_isNode h h0, yC_some, bN_if]
      cases hb' : inN b N with
      | false => exact h26
      | true =>
        have q := h32 ha (Or.inr hb')
        rw [decide_eq_false hb] at q
        exact q
/-- a new element -/
theorem face_addElement (h : Ref O r) (hn : 7000 ≤ n) (hF : Face r S E N) {k : Int32} :
    ((E = 16 ∨ N = 300) → G_XModel_addElement O n r k S = some (0, thr S r 1)) ∧
    (¬ (E = 16 ∨ N = 300) → ∃ S', G_XModel_addElement O n r k S = some (nI N, S') ∧ rOnly r S S' ∧ S'.1 r 0 0 = 0 ∧ S'.1 r 1 0 = nI (N + 1) ∧ S'.1 r 9 0 = nI (E + 1) ∧ rowIs (S'.1 r) k (nI E) (-1) (-1) N ∧ S'.1 r 11 E = nI N ∧ S'.1 r 12 E = nI N ∧ S'.1 r 2 0 = nI (N + 1) ∧
      ∀ j i, j ≠ 0 → j ≠ 1 → j ≠ 2 → j ≠ 7 → j ≠ 8 → j ≠ 9 → ¬ (3 ≤ j ∧ j ≤ 6 ∧ i = N) → ¬ (11 ≤ j ∧ j ≤ 12 ∧ i = E) → S'.1 r j i = S.1 r j i) := by
  have h0 := Face.thr (x := 0) hF
  obtain ⟨f1, f9, fN, fE, fS⟩ := h0
  have h24 : G_XModel_addElement_24 O n r (thr S r 0) = some (0, thr S r 1) := by
    unfold G_XModel_addElement_24
    rw [rk h, face_fail h, yC_some, thr_thr]
  unfold G_XModel_addElement
  rw [rP0 h, rI h (by decide), f9]
  constructor
  · intro hc
    by_cases hE : E = 16
    · rw [if_pos (by rw [hE]; rfl)]
      exact h24
    · have hN : N = 300 := hc.resolve_left hE
      have e1 : ¬ nI E = 16 := fun q => hE ((nI_eq (by omega) (by decide)).mp (q.trans (show (16 : Int32) = nI 16 from rfl)))
      rw [if_neg e1, rI h (by decide), f1, if_pos (by rw [hN]; rfl)]
      exact h24
  · intro hc
    have hE : ¬ E = 16 := fun q => hc (Or.inl q)
    have hN : ¬ N = 300 := fun q => hc (Or.inr q)
    have e1 : ¬ nI E = 16 := fun q => hE ((nI_eq (by omega) (by decide)).mp (q.trans (show (16 : Int32) = nI 16 from rfl)))
    have e2 : ¬ nI N = 300 := fun q => hN ((nI_eq (by omega) (by decide)).mp (q.trans (show (300 : Int32) = nI 300 from rfl)))
    rw [if_neg e1, rI h (by decide), f1, if_neg e2]
    obtain ⟨S1, b1, o1, s1, n1, c1⟩ := ref_begin (O := O) (n := n) (S := thr S r 0) h (show N < 6400 by omega) hn f1
    have g9 : S1.1 r 9 0 = nI E := by rw [s1 9 0 (by decide) (by decide) (by decide)]; exact f9
    have g1 : S1.1 r 1 0 = nI N := by rw [s1 1 0 (by decide) (by decide) (by decide)]; exact f1
    obtain ⟨S2, b2, o2, r2, s2, n2, c2⟩ := ref_add (O := O) (n := n) (k := k) (a := nI E) (b := -1) (c := -1) (S := S1) h (show N < 6400 by omega) n1 c1
    have k1 : S2.1 r 1 0 = nI N := by rw [s2 1 0 (by decide) (by decide) (by decide) (by omega)]; exact g1
    have k9 : S2.1 r 9 0 = nI E := by rw [s2 9 0 (by decide) (by decide) (by decide) (by omega)]; exact g9
    have i11 : E < refN 11 := by show E < 16; omega
    have i12 : E < refN 12 := by show E < 16; omega
    rw [rk h, b1, yV_some, rI h (by decide), g9, rk h, b2, yC_some, rI h (by decide), k1, rP h (by decide), nI_1]
    have v3 : ∀ j i, ((up3 S2.1 r 1 0 (nI (N + 1)), S2.2) : qS).1 r j i = if j = 1 ∧ i = 0 then nI (N + 1) else S2.1 r j i := fun j i => up3_at _ _ _ _ _ _ _
    have o3 : rOnly r S2 (up3 S2.1 r 1 0 (nI (N + 1)), S2.2) := rOnly.up
    generalize ((up3 S2.1 r 1 0 (nI (N + 1)), S2.2) : qS) = S3 at v3 o3 ⊢
    have l9 : S3.1 r 9 0 = nI E := by rw [v3, if_neg (fun q => absurd q.1 (by decide))]; exact k9
    rw [rA h (by decide), rI h (by decide), l9, rw' h (by decide) (by decide) i11]
    have v4 : ∀ j i, ((up3 S3.1 r 11 E (nI N), S3.2) : qS).1 r j i = if j = 11 ∧ i = E then nI N else S3.1 r j i := fun j i => up3_at _ _ _ _ _ _ _
    have o4 : rOnly r S3 (up3 S3.1 r 11 E (nI N), S3.2) := rOnly.up
    generalize ((up3 S3.1 r 11 E (nI N), S3.2) : qS) = S4 at v4 o4 ⊢
    have m9 : S4.1 r 9 0 = nI E := by rw [v4, if_neg (fun q => absurd q.1 (by decide))]; exact l9
    rw [rA h (by decide), rI h (by decide), m9, rw' h (by decide) (by decide) i12]
    have v5 : ∀ j i, ((up3 S4.1 r 12 E (nI N), S4.2) : qS).1 r j i = if j = 12 ∧ i = E then nI N else S4.1 r j i := fun j i => up3_at _ _ _ _ _ _ _
    have o5 : rOnly r S4 (up3 S4.1 r 12 E (nI N), S4.2) := rOnly.up
    generalize ((up3 S4.1 r 12 E (nI N), S4.2) : qS) = S5 at v5 o5 ⊢
    have p9 : S5.1 r 9 0 = nI E := by rw [v5, if_neg (fun q => absurd q.1 (by decide))]; exact m9
    rw [rI h (by decide), p9, rP h (by decide), nI_1]
    have v6 : ∀ j i, ((up3 S5.1 r 9 0 (nI (E + 1)), S5.2) : qS).1 r j i = if j = 9 ∧ i = 0 then nI (E + 1) else S5.1 r j i := fun j i => up3_at _ _ _ _ _ _ _
    have o6 : rOnly r S5 (up3 S5.1 r 9 0 (nI (E + 1)), S5.2) := rOnly.up
    generalize ((up3 S5.1 r 9 0 (nI (E + 1)), S5.2) : qS) = S6 at v6 o6 ⊢
    have low : ∀ j i, j ≠ 1 → j ≠ 9 → j ≠ 11 → j ≠ 12 → S6.1 r j i = S2.1 r j i := fun j i q1 q9 q11 q12 => by
      rw [v6, if_neg (fun q => q9 q.1), v5, if_neg (fun q => q12 q.1), v4, if_neg (fun q => q11 q.1), v3, if_neg (fun q => q1 q.1)]
    refine ⟨S6, rfl, ((((thr_only.trans o1).trans o2).trans o3).trans o4).trans (o5.trans o6), ?_, ?_, ?_, ?_, ?_, ?_, ?_, ?_⟩
    · rw [low 0 0 (by decide) (by decide) (by decide) (by decide), s2 0 0 (by decide) (by decide) (by decide) (by omega), s1 0 0 (by decide) (by decide) (by decide)]
      exact thr_0
    · rw [v6, if_neg (fun q => absurd q.1 (by decide)), v5, if_neg (fun q => absurd q.1 (by decide)), v4, if_neg (fun q => absurd q.1 (by decide)), v3, if_pos ⟨rfl, rfl⟩]
    · rw [v6, if_pos ⟨rfl, rfl⟩]
    · obtain ⟨w1, w2, w3, w4⟩ := r2
      exact ⟨by rw [low 3 _ (by decide) (by decide) (by decide) (by decide)]; exact w1, by rw [low 4 _ (by decide) (by decide) (by decide) (by decide)]; exact w2, by rw [low 5 _ (by decide) (by decide) (by decide) (by decide)]; exact w3, by rw [low 6 _ (by decide) (by decide) (by decide) (by decide)]; exact w4⟩
    · rw [v6, if_neg (fun q => absurd q.1 (by decide)), v5, if_neg (fun q => absurd q.1 (by decide)), v4, if_pos ⟨rfl, rfl⟩]
    · rw [v6, if_neg (fun q => absurd q.1 (by decide)), v5, if_pos ⟨rfl, rfl⟩]
    · rw [low 2 0 (by decide) (by decide) (by decide) (by decide)]
      exact n2
    · intro j i q0 q1 q2 q7 q8 q9 hne hne2
      rw [v6, if_neg (fun q => q9 q.1), v5, if_neg (fun q => hne2 ⟨by omega, by omega, q.2⟩), v4, if_neg (fun q => hne2 ⟨by omega, by omega, q.2⟩), v3, if_neg (fun q => q1 q.1), s2 j i q7 q8 q2 hne, s1 j i q7 q8 q2, thr_f q0]
end FACE2
