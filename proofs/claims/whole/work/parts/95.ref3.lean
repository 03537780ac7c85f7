/-- S' is S with the row N added -/
def rAdded (r : Nat) (S S' : qS) (k a b c : Int32) (N : Nat) : Prop := rOnly r S S' ∧ rowIs (S'.1 r) k a b c N ∧ (∀ j i, j ≠ 7 → j ≠ 8 → j ≠ 2 → ¬ (3 ≤ j ∧ j ≤ 6 ∧ i = N) → S'.1 r j i = S.1 r j i) ∧ S'.1 r 2 0 = nI (N + 1) ∧ rChain (S'.1 r) (N + 1)
/-- get: the row's node, there or new -/
theorem ref_get {O : qOb9} {r n N : Nat} {k a b c : Int32} {S : qS} (h : Ref O r) (hN : N < 6400) (hn : 7000 ≤ n) (hall : S.1 r 2 0 = nI N) (hc : rChain (S.1 r) N) :
    ∃ v S', G_XModel_get O n r k a b c S = some (nI v, S') ∧ ((v < N ∧ S' = S ∧ rowIs (S.1 r) k a b c v) ∨ (v = N ∧ (∀ q, q < N → ¬ rowIs (S.1 r) k a b c q) ∧ rAdded r S S' k a b c N)) := by
  obtain ⟨v, e1, hv⟩ := ref_find (O := O) (n := n) (k := k) (a := a) (b := b) (c := c) (S := S) h (Nat.le_of_lt hN) hn hc
  unfold G_XModel_get
  rw [rk h, e1, yC_some]
  rcases hv with ⟨rfl, h2⟩ | ⟨q, hq, rfl, hr⟩
  · obtain ⟨S', e2, o2, r2, s2, n2, c2⟩ := ref_add (O := O) (n := n) (k := k) (a := a) (b := b) (c := c) (S := S) h hN hall hc
    rw [if_pos (by decide), rk h, e2, yC_some]
    exact ⟨N, S', rfl, Or.inr ⟨rfl, h2, o2, r2, s2, n2, c2⟩⟩
  · rw [if_neg (nI_pos (by omega))]
    exact ⟨q, S, rfl, Or.inl ⟨hq, rfl, hr⟩⟩
/-- the order in which two parts are laid down -/
def rTurns (k a b : Int32) : Bool := (decide (k = 6) || decide (k = 8)) && decide (b < a)
def rFst (k a b : Int32) : Int32 := cond (rTurns k a b) b a
def rSnd (k a b : Int32) : Int32 := cond (rTurns k a b) a b
/-- make -/
theorem ref_make {O : qOb9} {r n N : Nat} {k a b c : Int32} {S : qS} (h : Ref O r) (hN : N < 6400) (hn : 7000 ≤ n) (hall : S.1 r 2 0 = nI N) (hc : rChain (S.1 r) N) (ha : k = 7 → ∃ m, m < 6400 ∧ a = nI m) :
    (¬ rPl (S.1 r) k a b c < 0 → G_XModel_make O n r k a b c S = some (rPl (S.1 r) k a b c, S)) ∧
    (rPl (S.1 r) k a b c < 0 → G_XModel_make O n r k a b c S = G_XModel_get O n r k (rFst k a b) (rSnd k a b) c S) := by
  unfold G_XModel_make
  rw [rk h, ref_plainest h ha, yC_some]
  constructor
  · intro hp
    rw [if_neg hp]
  · intro hp
    rw [if_pos hp]
    have g0 : ∀ x y z : Int32, G_XModel_make_65 O n z r k x y S = G_XModel_get O n r k x y z S := by
      intro x y z
      unfold G_XModel_make_65
      rw [rk h]
      cases G_XModel_get O n r k x y z S with
      | none => rfl
      | some q => rfl
    have m40 : G_XModel_make_40 O n r k a b c S = G_XModel_get O n r k a b c S := by
      unfold G_XModel_make_40 G_XModel_make_41
      rw [if_pos rfl]
      unfold G_XModel_make_55
      rw [if_pos rfl, g0]
    have m41 : G_XModel_make_41 O n r k a b c 1 S = G_XModel_get O n r k b a c S := by
      unfold G_XModel_make_41
      rw [if_neg (by decide)]
      unfold G_XModel_make_55
      rw [if_neg (by decide), g0]
    have m31 : (decide (k = 6) || decide (k = 8)) = true → G_XModel_make_31 O n r k a b c S = G_XModel_get O n r k (rFst k a b) (rSnd k a b) c S := by
      intro hk
      unfold G_XModel_make_31 rFst rSnd rTurns
      rw [hk, Bool.true_and]
      by_cases hab : a ≤ b
      · rw [if_pos hab, m40, decide_eq_false (Int32.not_lt.mpr hab)]
        rfl
      · rw [if_neg hab, m41, decide_eq_true (Int32.not_le.mp hab)]
        rfl
    by_cases k6 : k = 6
    · rw [if_pos k6]
      exact m31 (by rw [decide_eq_true k6]; rfl)
    · rw [if_neg k6]
      by_cases k8 : k = 8
      · rw [if_pos k8]
        exact m31 (by rw [decide_eq_true k8, Bool.or_true])
      · rw [if_neg k8, m40]
        unfold rFst rSnd rTurns
        rw [decide_eq_false k6, decide_eq_false k8]
        rfl
/-- fail: thrown is set, 0 is answered -/
theorem ref_fail {O : qOb9} {r n : Nat} {x : Int32} {S : qS} (h : Ref O r) : G_XModel_fail O n r x S = some (0, (up3 S.1 r 0 0 x, S.2)) := by
  unfold G_XModel_fail
  rw [rP h (by decide)]
def bN (b : Bool) : Int32 := cond b 1 0
theorem hz_bN {b : Bool} {S : qS} : hz (bN b) S = some (bN b, S) := by cases b <;> rfl
theorem bN_0 {b : Bool} : bN b = 0 ↔ b = false := by cases b <;> decide
theorem ref_within {O : qOb9} {n : Nat} {v lo hi : Int32} {S : qS} : G_XModel_within O n v lo hi S = some (bN (decide (lo ≤ v) && decide (v ≤ hi)), S) := by
  unfold G_XModel_within
  by_cases h1 : v < lo
  · rw [if_pos h1, decide_eq_false (Int32.not_le.mpr h1)]
    rfl
  · rw [if_neg h1, decide_eq_true (Int32.not_lt.mp h1)]
    by_cases h2 : hi < v
    · rw [if_pos h2, decide_eq_false (Int32.not_le.mpr h2)]
      rfl
    · rw [if_neg h2, decide_eq_true (Int32.not_lt.mp h2)]
      rfl
/-- is v one of 0 .. N - 1? -/
def inN (v : Int32) (N : Nat) : Bool := decide (0 ≤ v) && decide (v ≤ nI N - 1)
theorem inN_iff {v : Int32} {N : Nat} (hN : N < 2 ^ 31) : inN v N = true ↔ ∃ m, m < N ∧ v = nI m := by
  unfold inN
  rw [Bool.and_eq_true, decide_eq_true_iff, decide_eq_true_iff]
  constructor
  · rintro ⟨h1, h2⟩
    obtain ⟨m, hm, rfl⟩ := nI_of (Int32.not_lt.mpr h1)
    refine ⟨m, ?_, rfl⟩
    cases N with
    | zero =>
      rw [nI_0] at h2
      exact absurd (Int32.le_trans h1 h2) (by decide)
    | succ N =>
      rw [nI_pred] at h2
      exact Nat.lt_succ_of_le ((nI_leI hm (by omega)).mp h2)
  · rintro ⟨m, hm, rfl⟩
    refine ⟨nI_pos' (by omega), ?_⟩
    obtain ⟨N, rfl⟩ : ∃ N', N = N' + 1 := ⟨N - 1, by omega⟩
    rw [nI_pred]
    exact nI_le (by omega) (by omega)
theorem ref_isNode {O : qOb9} {r n N : Nat} {v : Int32} {S : qS} (h : Ref O r) (hS : S.1 r 1 0 = nI N) : G_XModel_isNode O n r v S = some (bN (inN v N), S) := by
  unfold G_XModel_isNode
  rw [rI h (by decide), hS, ref_within, yC_some]
  exact hz_bN
theorem ref_isElement {O : qOb9} {r n E : Nat} {v : Int32} {S : qS} (h : Ref O r) (hS : S.1 r 9 0 = nI E) : G_XModel_isElement O n r v S = some (bN (inN v E), S) := by
  unfold G_XModel_isElement
  rw [rI h (by decide), hS, ref_within, yC_some]
  exact hz_bN
/-- told: what a caller's row comes to -/
theorem ref_told {O : qOb9} {r n N : Nat} {k a b c code : Int32} {S : qS} (h : Ref O r) (hN : N ≤ 300) (hn : 7000 ≤ n) (hS : S.1 r 1 0 = nI N) (ha : k = 7 → ∃ m, m < 6400 ∧ a = nI m) :
    (¬ rPl (S.1 r) k a b c < 0 → G_XModel_told O n r k a b c code S = some (rPl (S.1 r) k a b c, S)) ∧
    (rPl (S.1 r) k a b c < 0 → ∃ v S', G_XModel_told O n r k a b c code S = some (v, S') ∧ rOnly r S S' ∧ S'.1 r 2 0 = S'.1 r 1 0 ∧
      ((∃ q, q < N ∧ v = nI q ∧ rowIs (S.1 r) k (rFst k a b) (rSnd k a b) c q ∧ ∀ j i, j ≠ 7 → j ≠ 8 → j ≠ 2 → S'.1 r j i = S.1 r j i) ∨
       ((∀ q, q < N → ¬ rowIs (S.1 r) k (rFst k a b) (rSnd k a b) c q) ∧ N = 300 ∧ v = 0 ∧ S'.1 r 0 0 = code ∧ ∀ j i, j ≠ 7 → j ≠ 8 → j ≠ 2 → j ≠ 0 → S'.1 r j i = S.1 r j i) ∨
       ((∀ q, q < N → ¬ rowIs (S.1 r) k (rFst k a b) (rSnd k a b) c q) ∧ N < 300 ∧ v = nI N ∧ S'.1 r 1 0 = nI (N + 1) ∧ rowIs (S'.1 r) k (rFst k a b) (rSnd k a b) c N ∧ ∀ j i, j ≠ 7 → j ≠ 8 → j ≠ 2 → j ≠ 1 → ¬ (3 ≤ j ∧ j ≤ 6 ∧ i = N) → S'.1 r j i = S.1 r j i))) := by
  unfold G_XModel_told
  rw [rk h, ref_plainest h ha, yC_some]
  constructor
  · intro hp
    rw [if_neg hp]
  · intro hp
    rw [if_pos hp]
    obtain ⟨S1, e1, o1, s1, n1, c1⟩ := ref_begin (O := O) (n := n) (S := S) h (show N < 6400 by omega) hn hS
    have hS1 : S1.1 r 1 0 = nI N := by rw [s1 1 0 (by decide) (by decide) (by decide)]; exact hS
    have row1 : ∀ x y q, rowIs (S1.1 r) k x y c q ↔ rowIs (S.1 r) k x y c q := by
      intro x y q
      unfold rowIs
      rw [s1 3 q (by decide) (by decide) (by decide), s1 4 q (by decide) (by decide) (by decide), s1 5 q (by decide) (by decide) (by decide), s1 6 q (by decide) (by decide) (by decide)]
    -- the row (x, y) told, whichever way it was turned
    have g0 : ∀ (x y t : Int32), (t = 0 → x = a ∧ y = b) → (¬ t = 0 → x = b ∧ y = a) → ∃ v S', G_XModel_told_69 O n r k a b c code t r k x y S1 = some (v, S') ∧ rOnly r S S' ∧ S'.1 r 2 0 = S'.1 r 1 0 ∧
      ((∃ q, q < N ∧ v = nI q ∧ rowIs (S.1 r) k x y c q ∧ ∀ j i, j ≠ 7 → j ≠ 8 → j ≠ 2 → S'.1 r j i = S.1 r j i) ∨
       ((∀ q, q < N → ¬ rowIs (S.1 r) k x y c q) ∧ N = 300 ∧ v = 0 ∧ S'.1 r 0 0 = code ∧ ∀ j i, j ≠ 7 → j ≠ 8 → j ≠ 2 → j ≠ 0 → S'.1 r j i = S.1 r j i) ∨
       ((∀ q, q < N → ¬ rowIs (S.1 r) k x y c q) ∧ N < 300 ∧ v = nI N ∧ S'.1 r 1 0 = nI (N + 1) ∧ rowIs (S'.1 r) k x y c N ∧ ∀ j i, j ≠ 7 → j ≠ 8 → j ≠ 2 → j ≠ 1 → ¬ (3 ≤ j ∧ j ≤ 6 ∧ i = N) → S'.1 r j i = S.1 r j i)) := by
      intro x y t t0 t1
      unfold G_XModel_told_69
      obtain ⟨v, e2, hv⟩ := ref_find (O := O) (n := n) (k := k) (a := x) (b := y) (c := c) (S := S1) h (show N ≤ 6400 by omega) hn c1
      rw [rk h, e2, yC_some]
      rcases hv with ⟨rfl, hno⟩ | ⟨q, hq, rfl, hr⟩
      · have hno' : ∀ q, q < N → ¬ rowIs (S.1 r) k x y c q := fun q hq hr => hno q hq ((row1 x y q).mpr hr)
        rw [if_pos (by decide), rI h (by decide), hS1]
        by_cases hN3 : N = 300
        · rw [if_pos (by rw [hN3]; rfl), rk h, ref_fail h, yC_some]
          have v6 : ∀ j i, ((up3 S1.1 r 0 0 code, S1.2) : qS).1 r j i = if j = 0 ∧ i = 0 then code else S1.1 r j i := fun j i => up3_at _ _ _ _ _ _ _
          have o6 : rOnly r S1 (up3 S1.1 r 0 0 code, S1.2) := rOnly.up
          generalize ((up3 S1.1 r 0 0 code, S1.2) : qS) = S2 at v6 o6 ⊢
          refine ⟨0, S2, rfl, o1.trans o6, by rw [v6, if_neg (fun q => absurd q.1 (by decide)), v6, if_neg (fun q => absurd q.1 (by decide)), n1, hS1], Or.inr (Or.inl ⟨hno', hN3, rfl, by rw [v6, if_pos ⟨rfl, rfl⟩], fun j i h7 h8 h2 h0 => ?_⟩)⟩
          rw [v6, if_neg (fun q => h0 q.1), s1 j i h7 h8 h2]
        · have h300 : ¬ nI N = 300 := fun q => hN3 ((nI_eq (by omega) (by decide)).mp (q.trans (show (300 : Int32) = nI 300 from rfl)))
          rw [if_neg h300]
          obtain ⟨S2, e2, o2, r2, s2, n2, c2⟩ := ref_add (O := O) (n := n) (k := k) (a := x) (b := y) (c := c) (S := S1) h (show N < 6400 by omega) n1 c1
          have f123 : G_XModel_told_123 O n r c r k x y S1 = some (nI N, (up3 S2.1 r 1 0 (nI (N + 1)), S2.2)) := by
            unfold G_XModel_told_123
            rw [rk h, e2, yC_some, rI h (by decide), s2 1 0 (by decide) (by decide) (by decide) (by omega), hS1, rP h (by decide), nI_1]
          have all : (if t = 0 then G_XModel_told_113 O n r a b c t r k a S1 else G_XModel_told_113 O n r a b c t r k b S1) = some (nI N, (up3 S2.1 r 1 0 (nI (N + 1)), S2.2)) := by
            unfold G_XModel_told_113
            by_cases ht : t = 0
            · obtain ⟨hx, hy⟩ := t0 ht
              rw [if_pos ht, if_pos ht, ← hx, ← hy]
              exact f123
            · obtain ⟨hx, hy⟩ := t1 ht
              rw [if_neg ht, if_neg ht, ← hx, ← hy]
              exact f123
          rw [all]
          have v6 : ∀ j i, ((up3 S2.1 r 1 0 (nI (N + 1)), S2.2) : qS).1 r j i = if j = 1 ∧ i = 0 then nI (N + 1) else S2.1 r j i := fun j i => up3_at _ _ _ _ _ _ _
          have o6 : rOnly r S2 (up3 S2.1 r 1 0 (nI (N + 1)), S2.2) := rOnly.up
          generalize ((up3 S2.1 r 1 0 (nI (N + 1)), S2.2) : qS) = S3 at v6 o6 ⊢
          have n6 : ∀ j i, j ≠ 1 → S3.1 r j i = S2.1 r j i := fun j i hj => by rw [v6, if_neg (fun q => hj q.1)]
          refine ⟨nI N, S3, rfl, (o1.trans o2).trans o6, by rw [n6 2 0 (by decide), n2, v6, if_pos ⟨rfl, rfl⟩], Or.inr (Or.inr ⟨hno', by omega, rfl, by rw [v6, if_pos ⟨rfl, rfl⟩], ?_, fun j i h7 h8 h2 h1 hne => ?_⟩)⟩
          · obtain ⟨w1, w2, w3, w4⟩ := r2
            exact ⟨by rw [n6 3 _ (by decide)]; exact w1, by rw [n6 4 _ (by decide)]; exact w2, by rw [n6 5 _ (by decide)]; exact w3, by rw [n6 6 _ (by decide)]; exact w4⟩
          · rw [n6 j i h1, s2 j i h7 h8 h2 hne, s1 j i h7 h8 h2]
      · rw [if_neg (nI_pos (by omega))]
        exact ⟨nI q, S1, rfl, o1, by rw [n1, hS1], Or.inl ⟨q, hq, rfl, (row1 x y q).mp hr, s1⟩⟩
    have m41 : ∀ t : Int32, G_XModel_told_41 O n r k a b c code t S = G_XModel_told_69 O n r k a b c code t r k (if t = 0 then a else b) (if t = 0 then b else a) S1 := by
      intro t
      unfold G_XModel_told_41
      rw [rk h, e1, yV_some]
      unfold G_XModel_told_59
      by_cases ht : t = 0
      · rw [if_pos ht, if_pos ht, if_pos ht, if_pos ht]
      · rw [if_neg ht, if_neg ht, if_neg ht, if_neg ht]
    have m0 : G_XModel_told_40 O n r k a b c code S = G_XModel_told_69 O n r k a b c code 0 r k a b S1 := by
      unfold G_XModel_told_40
      rw [m41, if_pos rfl, if_pos rfl]
    have m1 : G_XModel_told_41 O n r k a b c code 1 S = G_XModel_told_69 O n r k a b c code 1 r k b a S1 := by
      rw [m41, if_neg (by decide), if_neg (by decide)]
    have q0 := g0 a b 0 (fun _ => ⟨rfl, rfl⟩) (fun q => absurd rfl q)
    have q1 := g0 b a 1 (fun q => absurd q (by decide)) (fun _ => ⟨rfl, rfl⟩)
    have m31 : (decide (k = 6) || decide (k = 8)) = true → ∃ x y, x = rFst k a b ∧ y = rSnd k a b ∧ ∃ t, G_XModel_told_31 O n r k a b c code S = G_XModel_told_69 O n r k a b c code t r k x y S1 ∧ (t = 0 → x = a ∧ y = b) ∧ (¬ t = 0 → x = b ∧ y = a) := by
      intro hk
      unfold G_XModel_told_31 rFst rSnd rTurns
      rw [hk, Bool.true_and]
      by_cases hab : a ≤ b
      · rw [if_pos hab, m0, decide_eq_false (Int32.not_lt.mpr hab)]
        exact ⟨a, b, rfl, rfl, 0, rfl, fun _ => ⟨rfl, rfl⟩, fun q => absurd rfl q⟩
      · rw [if_neg hab, m1, decide_eq_true (Int32.not_le.mp hab)]
        exact ⟨b, a, rfl, rfl, 1, rfl, fun q => absurd q (by decide), fun _ => ⟨rfl, rfl⟩⟩
    by_cases k6 : k = 6
    · rw [if_pos k6]
      obtain ⟨x, y, hx, hy, t, e3, t0, t1⟩ := m31 (by rw [decide_eq_true k6]; rfl)
      rw [e3, ← hx, ← hy]
      exact g0 x y t t0 t1
    · rw [if_neg k6]
      by_cases k8 : k = 8
      · rw [if_pos k8]
        obtain ⟨x, y, hx, hy, t, e3, t0, t1⟩ := m31 (by rw [decide_eq_true k8, Bool.or_true])
        rw [e3, ← hx, ← hy]
        exact g0 x y t t0 t1
      · rw [if_neg k8, m0]
        have e4 : rFst k a b = a ∧ rSnd k a b = b := by
          unfold rFst rSnd rTurns
          rw [decide_eq_false k6, decide_eq_false k8]
          exact ⟨rfl, rfl⟩
        rw [e4.1, e4.2]
        exact q0
