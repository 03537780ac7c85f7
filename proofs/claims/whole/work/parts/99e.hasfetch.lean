theorem mkd_01 {D : Nat → Int32} {x : Int32} (h : ∀ q, D q = 0 ∨ D q = 1) : ∀ q, mkd D x q = 0 ∨ mkd D x q = 1 := by
  intro q
  unfold mkd
  by_cases hx : ¬ x < 0 ∧ q = x.toNatClampNeg
  · rw [if_pos hx]; exact Or.inr rfl
  · rw [if_neg hx]; exact h q
theorem mpStep_01 {κ α β γ : Nat → Int32} {m : Nat} {D : Nat → Int32} (h : ∀ q, D q = 0 ∨ D q = 1) : ∀ q, mpStep κ α β γ m D q = 0 ∨ mpStep κ α β γ m D q = 1 := by
  unfold mpStep
  by_cases h1 : D m = 0
  · rw [if_pos h1]; exact h
  · rw [if_neg h1]
    by_cases h2 : κ m ≤ 4
    · rw [if_pos h2]; exact h
    · rw [if_neg h2]
      by_cases h3 : κ m = 9
      · rw [if_pos h3]; exact mkd_01 (mkd_01 (mkd_01 h))
      · rw [if_neg h3]; exact mkd_01 (mkd_01 h)
theorem mpAll_01 {κ α β γ : Nat → Int32} : ∀ (m : Nat) (D : Nat → Int32), (∀ q, D q = 0 ∨ D q = 1) → ∀ q, mpAll κ α β γ m D q = 0 ∨ mpAll κ α β γ m D q = 1 := by
  intro m
  induction m with
  | zero => intro D h; exact h
  | succ m ih =>
    intro D h
    unfold mpAll
    by_cases h2 : m ≤ 2
    · rw [if_pos h2]; exact h
    · rw [if_neg h2]; exact ih _ (mpStep_01 h)
theorem mpAll_skip {κ α β γ : Nat → Int32} {N : Nat} (h3 : 3 ≤ N) {D : Nat → Int32} : ∀ A, N ≤ A → (∀ q, N ≤ q → q < A → D q = 0) → mpAll κ α β γ A D = mpAll κ α β γ N D := by
  intro A
  induction A with
  | zero => intro h; omega
  | succ A ih =>
    intro hA h0
    by_cases e : A + 1 = N
    · rw [e]
    · have hs : mpStep κ α β γ A D = D := by
        unfold mpStep
        rw [if_pos (h0 A (by omega) (by omega))]
      have e1 : mpAll κ α β γ (A + 1) D = mpAll κ α β γ A D := by
        show (if A ≤ 2 then D else mpAll κ α β γ A (mpStep κ α β γ A D)) = _
        rw [if_neg (by omega), hs]
      rw [e1]
      exact ih (by omega) (fun q h1 h2 => h0 q h1 (by omega))
/-- the face, and what lies behind it in the reference's rows -/
def FaceA (r : Nat) (S : qS) (E N A : Nat) : Prop := Face r S E N ∧ S.1 r 2 0 = nI A ∧ N ≤ A ∧ A ≤ 6400 ∧ (∀ m, m < A → pB (S.1 r 4 m) ∧ pB (S.1 r 5 m) ∧ pB (S.1 r 6 m)) ∧ ∀ m, S.1 r 21 m = 0 ∨ S.1 r 21 m = 1
/-- the reference's hasFetch -/
theorem ref_hasFetch {O : qOb9} {r n E N A x : Nat} {S : qS} (h : Ref O r) (hn : 7000 ≤ n) (hF : FaceA r S E N A) (hx : x < N) :
    ∃ D, (∀ m, D m = 0 ∨ D m = 1) ∧ G_XModel_hasFetch O n r (nI x) S = some (bN (hf (S.1 r 3) (S.1 r 4) (S.1 r 5) (S.1 r 6) x), setF S r 21 D) := by
  obtain ⟨f1, f2, f3, f4, f5, f6⟩ := hF
  have hN := f1.2.2.1
  have h3 := f1.2.2.2.2.1
  have hrow := f1.2.2.2.2.2.1
  have D0 : ∀ m, (if m < A then (0 : Int32) else S.1 r 21 m) = 0 ∨ (if m < A then (0 : Int32) else S.1 r 21 m) = 1 := by
    intro m
    by_cases q : m < A
    · rw [if_pos q]; exact Or.inl rfl
    · rw [if_neg q]; exact f6 m
  have hu := ref_unmark (O := O) (n := n) h hn f4 f2
  have D1 := mkd_01 (x := nI x) D0
  have d1 : ∀ q, mkd (fun k => if k < A then (0 : Int32) else S.1 r 21 k) (nI x) q = if q = x then 1 else if q < A then 0 else S.1 r 21 q := by
    intro q
    unfold mkd
    rw [nI_clamp (by omega)]
    by_cases e : q = x
    · rw [if_pos ⟨nI_pos (by omega), e⟩, if_pos e]
    · rw [if_neg (fun z => e z.2), if_neg e]
  generalize hG0 : (fun k => if k < A then (0 : Int32) else S.1 r 21 k) = G0 at hu D1 d1
  generalize hG1 : mkd G0 (nI x) = G1 at D1 d1
  have hm : G_XModel_mark O n r (nI x) (setF S r 21 G0) = some ((), setF S r 21 G1) := by
    rw [ref_mark h (Or.inr ⟨x, by omega, rfl⟩), setF_setF, setF_same, hG1]
  have hp := ref_markParts (O := O) (n := n) (S := setF S r 21 G1) h hn f4 (by rw [setF_ne (by decide)]; exact f2) (by
    intro m hm
    rw [setF_ne (by decide), setF_ne (by decide), setF_ne (by decide)]
    exact f5 m hm)
  rw [setF_ne (by decide), setF_ne (by decide), setF_ne (by decide), setF_ne (by decide), setF_setF, setF_same] at hp
  have D2 := mpAll_01 (κ := S.1 r 3) (α := S.1 r 4) (β := S.1 r 5) (γ := S.1 r 6) A G1 D1
  have key : ¬ mpAll (S.1 r 3) (S.1 r 4) (S.1 r 5) (S.1 r 6) A G1 2 = 0 ↔ hf (S.1 r 3) (S.1 r 4) (S.1 r 5) (S.1 r 6) x = true := by
    rw [mpAll_skip h3 A f3 (fun q h1 h2 => by rw [d1, if_neg (by omega), if_pos h2]), mpAll_fetch hrow (by omega) N G1 h3 (Nat.le_refl N)]
    constructor
    · rintro ⟨q, hq, hd, hh⟩
      rw [d1] at hd
      by_cases e : q = x
      · rw [← e]; exact hh
      · rw [if_neg e, if_pos (by omega)] at hd
        exact absurd rfl hd
    · intro hh
      exact ⟨x, hx, by rw [d1, if_pos rfl]; decide, hh⟩
  generalize mpAll (S.1 r 3) (S.1 r 4) (S.1 r 5) (S.1 r 6) A G1 = G2 at hp D2 key
  refine ⟨G2, D2, ?_⟩
  unfold G_XModel_hasFetch
  have e2 : G2 2 = bN (hf (S.1 r 3) (S.1 r 4) (S.1 r 5) (S.1 r 6) x) := by
    rcases D2 2 with q | q
    · rw [q]
      cases hh : hf (S.1 r 3) (S.1 r 4) (S.1 r 5) (S.1 r 6) x with
      | false => rfl
      | true => exact absurd q (key.mpr hh)
    · rw [q, key.mp (by rw [q]; decide)]
      rfl
  rw [rk h, hu, yV_some, rk h, hm, yV_some, rk h, hp, yV_some, rA h (by decide)]
  show hl 1 O (setF S r 21 G2) (r, 21) (nI 2) _ = _
  rw [rl h (by decide) (by decide) (show 2 < refN 21 by decide), setF_same, e2]
  exact hz_bN
