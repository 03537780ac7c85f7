/-! THE CLASS'S FACE: its store, and what is required -/
section CFACE
variable {O : qOb9} {x c u p f w q s l r n E N I : Nat} {S : qS} {eS : Nat → Bool}
theorem cls_full (hC : CS O f 300 256 S E 300) {k a b z h6 : Int32} : G_XNodes_put_129 O n f k a b z h6 S = some (-1, S) := by
  obtain ⟨hN, h7, _⟩ := hC
  unfold G_XNodes_put_129
  rw [uI (ci := 3) hN.1 (by decide), h7, uA (ci := 3) hN.1 (by decide), un (ci := 3) hN.1 (by decide), hN.2.1 0 (by omega), if_neg (show ¬ nI 300 < nI 300 from fun z => by have := (nI_ltI (a := 300) (b := 300) (by decide) (by decide)).mp z; omega)]
/-- what put does in a face, that may be full -/
def PutF (O : qOb9) (f E N : Nat) (S : qS) (k a b z v : Int32) (S' : qS) : Prop :=
  (∃ q, q < N ∧ rwI (S.1 f) k a b z q ∧ v = nI q ∧ S' = S) ∨
  ((∀ q, q < N → ¬ rwI (S.1 f) k a b z q) ∧ N = 300 ∧ v = -1 ∧ S' = S) ∨
  ((∀ q, q < N → ¬ rwI (S.1 f) k a b z q) ∧ N < 300 ∧ v = nI N ∧ CS O f 300 256 S' E (N + 1) ∧ rOnly f S S' ∧ (∀ j i, j ≤ 4 → i < N → S'.1 f j i = S.1 f j i) ∧ rwI (S'.1 f) k a b z N)
theorem cls_putF (hn : 7000 ≤ n) (hE : E ≤ 16) (hC : CS O f 300 256 S E N) {k a b z : Int32} (hL : (∀ q, q < N → ¬ rwI (S.1 f) k a b z q) → LayC S f E N k a b z) (h9 : k = 9 → ∃ q, q < N ∧ b = nI q) :
    ∃ v S', G_XNodes_put O n f k a b z S = some (v, S') ∧ PutF O f E N S k a b z v S' := by
  have hN := hC.2.2.1
  have e0 := put_eq (n := n) (k := k) (x := a) (y := b) (z := z) hC.to0
  rcases cls_put_56 (O := O) (n := n) (k := k) (x := a) (y := b) (z := z) (h6 := nI (cH 256 k a b z)) hC.to0 N N n (Nat.le_refl N) (Nat.le_refl N) (by omega) (by omega) with ⟨q, hq, hr, eq⟩ | ⟨hno, eq⟩
  · exact ⟨nI q, S, by rw [e0]; exact eq, Or.inl ⟨q, hq, hr, rfl, rfl⟩⟩
  · by_cases hN3 : N = 300
    · subst hN3
      exact ⟨-1, S, by rw [e0, eq]; exact cls_full hC, Or.inr (Or.inl ⟨hno, rfl, rfl, rfl⟩)⟩
    · obtain ⟨v, M', S', p1, p2, p3, p4, p5, p6, p7, p8, p9⟩ := cls_put (n := n) hn hE hC (k := k) (x := a) (y := b) (z := z) (by omega) hL h9
      have vN : ¬ v < N := fun hv => hno v hv (by
        obtain ⟨y0, y1, y2, y3⟩ := p8
        exact ⟨by rw [← p7 0 v (by omega) hv]; exact y0, by rw [← p7 1 v (by omega) hv]; exact y1, by rw [← p7 2 v (by omega) hv]; exact y2, by rw [← p7 3 v (by omega) hv]; exact y3⟩)
      have eM : M' = N + 1 := by
        rcases p9 with y | y
        · omega
        · exact y.1
      have ev : v = N := by omega
      rw [ev] at p1 p8
      rw [eM] at p5
      exact ⟨nI N, S', p1, Or.inr (Or.inr ⟨hno, by omega, rfl, p5, p6, p7, p8⟩)⟩
/-- where the face is -/
theorem ClO_f (hO : ClO O x c u p f w q s l) : oC O x = 1 + 1 ∧ oC O c = 2 + 1 ∧ oR O x 0 = c ∧ oR O c 0 = f ∧ oC O f = 3 + 1 := by
  obtain ⟨⟨h1, h2, _⟩, ⟨o1, _, _, o4, _⟩, ⟨n1, _⟩, _⟩ := hO
  exact ⟨h1, h2, o1, o4, n1.1⟩
theorem tW_inl {β : Type} {T : qS} {k : qS → Option ((β ⊕ String) × qS)} : tW (some (.inl (), T)) k = k T := rfl
theorem tW_inr {β : Type} {T : qS} {e : String} {k : qS → Option ((β ⊕ String) × qS)} : tW (some (.inr e, T)) k = some (.inr e, T) := rfl
theorem tC_inl {α β : Type} {T : qS} {v : α} {k : α → qS → Option ((β ⊕ String) × qS)} : tC (some (.inl v, T)) k = k v T := rfl
theorem tC_inr {α β : Type} {T : qS} {e : String} {k : α → qS → Option ((β ⊕ String) × qS)} : tC (some (.inr e, T)) k = some (.inr e, T) := rfl
abbrev xIOB : String := "java/lang/IndexOutOfBoundsException"
abbrev xIAE : String := "java/lang/IllegalArgumentException"
abbrev xUOE : String := "java/lang/UnsupportedOperationException"
abbrev xISE : String := "java/lang/IllegalStateException"
theorem cls_reqNode (hO : ClO O x c u p f w q s l) (hC : CS O f 300 256 S E N) {v : Int32} : G_X_requireNode O n x v S = cond (inN v N) (some (.inl (), S)) (some (.inr xIOB, S)) := by
  obtain ⟨h1, h2, o1, o4, h3⟩ := ClO_f hO
  unfold G_X_requireNode
  rw [uO h1 (by decide), o1, uO h2 (by decide), o4, uk h3, cls_has hC, yC_some, bN_if]
theorem cls_reqWord (hO : ClO O x c u p f w q s l) (hC : CS O f 300 256 S E N) {v : Int32} : G_X_requireWord O n x v S = cond (inN v N && cWd S f v.toNatClampNeg) (some (.inl (), S)) (some (.inr xIAE, S)) := by
  obtain ⟨h1, h2, o1, o4, h3⟩ := ClO_f hO
  unfold G_X_requireWord
  rw [uO h1 (by decide), o1, uO h2 (by decide), o4, uk h3, cls_isWord hC, yC_some, bN_if]
theorem cls_reqTruth (hO : ClO O x c u p f w q s l) (hC : CS O f 300 256 S E N) {v : Int32} : G_X_requireTruth O n x v S = cond (inN v N && cWd S f v.toNatClampNeg) (some (.inr xIAE, S)) (some (.inl (), S)) := by
  obtain ⟨h1, h2, o1, o4, h3⟩ := ClO_f hO
  unfold G_X_requireTruth
  rw [uO h1 (by decide), o1, uO h2 (by decide), o4, uk h3, cls_isWord hC, yC_some, bN_if]
theorem bN_eq {a b : Bool} : bN a = bN b ↔ a = b := by cases a <;> cases b <;> decide
theorem cls_reqSame (hO : ClO O x c u p f w q s l) (hC : CS O f 300 256 S E N) {a b : Int32} : G_X_requireSameSort O n x a b S = cond ((inN a N && cWd S f a.toNatClampNeg) == (inN b N && cWd S f b.toNatClampNeg)) (some (.inl (), S)) (some (.inr xIAE, S)) := by
  obtain ⟨h1, h2, o1, o4, h3⟩ := ClO_f hO
  unfold G_X_requireSameSort
  rw [uO h1 (by decide), o1, uO h2 (by decide), o4, uk h3, cls_isWord hC, yC_some, uO h1 (by decide), o1, uO h2 (by decide), o4, uk h3, cls_isWord hC, yC_some]
  generalize (inN a N && cWd S f a.toNatClampNeg) = y
  generalize (inN b N && cWd S f b.toNatClampNeg) = z
  cases y <;> cases z <;> rfl
theorem cls_reqRoom (hO : ClO O x c u p f w q s l) (hC : CS O f 300 256 S E N) (h6 : S.1 c 6 0 = nI E) (hE : E ≤ 16) : ((E = 16 ∨ N = 300) → G_X_requireRoomForElement O n x S = some (.inr xUOE, S)) ∧ (¬ (E = 16 ∨ N = 300) → G_X_requireRoomForElement O n x S = some (.inl (), S)) := by
  obtain ⟨h1, h2, o1, o4, h3⟩ := ClO_f hO
  have hN := hC.2.2.1
  unfold G_X_requireRoomForElement G_X_requireRoomForElement_28
  rw [uO h1 (by decide), o1, uI h2 (by decide), h6]
  by_cases e16 : E = 16
  · subst e16
    rw [if_pos (show (16 : Int32) ≤ nI 16 by decide)]
    exact ⟨fun _ => rfl, fun z => absurd (Or.inl rfl) z⟩
  · rw [if_neg (show ¬ (16 : Int32) ≤ nI E from nI_ge (a := E) (b := 16) (by omega) (by decide)), uO h1 (by decide), o1, uO h2 (by decide), o4, uI h3 (by decide), hC.2.1]
    by_cases n3 : N = 300
    · subst n3
      rw [if_neg (show ¬ nI 300 < (300 : Int32) from fun z => by have := (nI_ltI (a := 300) (b := 300) (by decide) (by decide)).mp z; omega)]
      exact ⟨fun _ => rfl, fun z => absurd (Or.inr rfl) z⟩
    · rw [if_pos (show nI N < (300 : Int32) from (nI_ltI (a := N) (b := 300) (by omega) (by decide)).mpr (by omega))]
      exact ⟨fun z => absurd z (by omega), fun _ => rfl⟩
theorem cls_reqElem (hO : ClO O x c u p f w q s l) (h6 : S.1 c 6 0 = nI E) (hE : E ≤ 16) {v : Int32} : G_X_requireElement O n x v S = cond (inN v E) (some (.inl (), S)) (some (.inr xIOB, S)) := by
  obtain ⟨h1, h2, o1, o4, h3⟩ := ClO_f hO
  unfold G_X_requireElement G_X_requireElement_15
  by_cases z : v < 0
  · rw [if_pos z]
    have : inN v E = false := by
      cases y : inN v E with
      | false => rfl
      | true => exact absurd z (inN_nn y)
    rw [this]; rfl
  · rw [if_neg z, uO h1 (by decide), o1, uI h2 (by decide), h6]
    obtain ⟨m, hm, rfl⟩ := nI_of z
    by_cases y : m < E
    · rw [if_pos ((nI_ltI hm (by omega)).mpr y), inN_nI (by omega) y]; rfl
    · rw [if_neg (fun w => y ((nI_ltI hm (by omega)).mp w))]
      have : inN (nI m) E = false := by
        cases y' : inN (nI m) E with
        | false => rfl
        | true =>
          obtain ⟨m', hm', e⟩ := (inN_iff (by omega)).mp y'
          have := (nI_eq (by omega) (by omega)).mp e
          omega
      rw [this]; rfl
/-- the class makes a node of its face as the reference tells one -/
def MkF (O : qOb9) (n f : Nat) (S : qS) (σ : Nat → Nat → Int32) (k a b z : Int32) (y : Option (Int32 × qS)) : Prop := y = if rPl σ k a b z < 0 then G_XNodes_put O n f k (rFst k a b) (rSnd k a b) z S else some (rPl σ k a b z, S)
theorem rF_n (k a b : Int32) (h6 : ¬ k = 6) (h8 : ¬ k = 8) : rFst k a b = a ∧ rSnd k a b = b := by
  unfold rFst rSnd rTurns
  rw [decide_eq_false h6, decide_eq_false h8]
  exact ⟨rfl, rfl⟩
theorem mkF6 (h3 : oC O f = 3 + 1) {σ : Nat → Nat → Int32} {a b : Nat} (ha : a < 2 ^ 31) (hb : b < 2 ^ 31) : MkF O n f S σ 6 (nI a) (nI b) (-1) (G_XNodes_makeEquality O n f (nI a) (nI b) S) := by
  unfold MkF G_XNodes_makeEquality
  have e : rPl σ 6 (nI a) (nI b) (-1) = if nI a = nI b then 1 else -1 := by unfold rPl; rw [if_pos rfl]
  rw [e]
  by_cases z : nI a = nI b
  · rw [if_pos z, if_pos z, if_neg (by decide)]
  · obtain ⟨m1, m2⟩ := minI ha hb
    obtain ⟨t1, t2⟩ := turned (k := 6) (Or.inl rfl) ha hb
    rw [if_neg z, if_neg z, if_pos (show (-1 : Int32) < 0 by decide), hB_eq, hB_eq, m1, m2, uk h3, yC_id, t1, t2]
theorem mkF8 (h3 : oC O f = 3 + 1) {σ : Nat → Nat → Int32} {a b : Nat} (ha : a < 2 ^ 31) (hb : b < 2 ^ 31) : MkF O n f S σ 8 (nI a) (nI b) (-1) (G_XNodes_makeBoth O n f (nI a) (nI b) S) := by
  unfold MkF G_XNodes_makeBoth G_XNodes_makeBoth_8 G_XNodes_makeBoth_20
  have e : rPl σ 8 (nI a) (nI b) (-1) = if nI a = 0 then 0 else if nI b = 0 then 0 else if nI a = 1 then nI b else if nI b = 1 then nI a else if nI a = nI b then nI a else -1 := by
    unfold rPl
    rw [if_neg (by decide), if_neg (by decide), if_pos rfl]
  rw [e]
  by_cases z0 : nI a = 0
  · rw [if_pos z0, if_pos z0, if_neg (by decide)]
  rw [if_neg z0, if_neg z0]
  by_cases z1 : nI b = 0
  · rw [if_pos z1, if_pos z1, if_neg (by decide)]
  rw [if_neg z1, if_neg z1]
  by_cases z2 : nI a = 1
  · rw [if_pos z2, if_pos z2, if_neg (nI_pos hb)]
  rw [if_neg z2, if_neg z2]
  by_cases z3 : nI a = nI b
  · rw [if_pos z3]
    by_cases z4 : nI b = 1
    · exact absurd (z3.trans z4) z2
    · rw [if_neg z4, if_pos z3, if_neg (nI_pos ha), z3]
  · rw [if_neg z3]
    by_cases z4 : nI b = 1
    · rw [if_pos z4, if_pos z4, if_neg (nI_pos ha)]
    · obtain ⟨m1, m2⟩ := minI ha hb
      obtain ⟨t1, t2⟩ := turned (k := 8) (Or.inr rfl) ha hb
      rw [if_neg z4, if_neg z4, if_neg z3, if_pos (show (-1 : Int32) < 0 by decide), hB_eq, hB_eq, m1, m2, uk h3, yC_id, t1, t2]
theorem mkF9 (h3 : oC O f = 3 + 1) {σ : Nat → Nat → Int32} {a b : Nat} (ha : a < 2 ^ 31) (hb : b < 2 ^ 31) {d : Int32} : MkF O n f S σ 9 d (nI a) (nI b) (G_XNodes_makeChoice O n f d (nI a) (nI b) S) := by
  unfold MkF G_XNodes_makeChoice G_XNodes_makeChoice_10
  have e : rPl σ 9 d (nI a) (nI b) = if d = 1 then nI a else if d = 0 then nI b else if nI a = nI b then nI a else -1 := by
    unfold rPl
    rw [if_neg (by decide), if_neg (by decide), if_neg (by decide), if_pos rfl]
  rw [e]
  by_cases z0 : d = 1
  · rw [if_pos z0, if_pos z0, if_neg (nI_pos ha)]
  rw [if_neg z0, if_neg z0]
  by_cases z1 : nI a = nI b
  · rw [if_pos z1]
    by_cases z2 : d = 0
    · rw [if_pos z2, if_neg (nI_pos hb), z1]
    · rw [if_neg z2, if_pos z1, if_neg (nI_pos ha)]
  · rw [if_neg z1]
    by_cases z2 : d = 0
    · rw [if_pos z2, if_pos z2, if_neg (nI_pos hb)]
    · obtain ⟨t1, t2⟩ := rF_n 9 d (nI a) (by decide) (by decide)
      rw [if_neg z2, if_neg z2, if_neg z1, if_pos (by decide), uk h3, yC_id, t1, t2]
theorem mkF5 (h3 : oC O f = 3 + 1) {σ : Nat → Nat → Int32} {g a b : Int32} : MkF O n f S σ 5 a b g (G_XNodes_makeApplication O n f g a b S) := by
  unfold MkF G_XNodes_makeApplication
  have e : rPl σ 5 a b g = -1 := by
    unfold rPl
    rw [if_neg (by decide), if_neg (by decide), if_neg (by decide), if_neg (by decide)]
  obtain ⟨t1, t2⟩ := rF_n 5 a b (by decide) (by decide)
  rw [e, if_pos (by decide), uk h3, yC_id, t1, t2]
theorem mkF7 (hE : E ≤ 16) (hC : CS O f 300 256 S E N) {σ : Nat → Nat → Int32} (hσ : ∀ m, m < N → σ 3 m = S.1 f 0 m ∧ σ 4 m = S.1 f 1 m) {a : Nat} (ha : a < N) : MkF O n f S σ 7 (nI a) (-1) (-1) (G_XNodes_makeNot O n f (nI a) S) := by
  have h3 : oC O f = 3 + 1 := hC.1.1
  have hN := hC.2.2.1
  have hN31 := (CS_big hC).1
  unfold MkF G_XNodes_makeNot G_XNodes_makeNot_39
  have e : rPl σ 7 (nI a) (-1) (-1) = if nI a = 1 then 0 else if nI a = 0 then 1 else if S.1 f 0 a = 7 then S.1 f 1 a else -1 := by
    unfold rPl
    rw [if_neg (by decide), if_pos rfl, nI_clamp (by omega), (hσ a ha).1, (hσ a ha).2]
  rw [e]
  by_cases z0 : nI a = 1
  · rw [if_pos z0, if_pos z0, if_neg (by decide)]
  rw [if_neg z0, if_neg z0]
  by_cases z1 : nI a = 0
  · rw [if_pos z1, if_pos z1, if_neg (by decide)]
  have a0 : a < oN O f 0 := by rw [hC.1.2.1 0 (by omega)]; omega
  have a1 : a < oN O f 1 := by rw [hC.1.2.1 1 (by omega)]; omega
  rw [if_neg z1, if_neg z1, uk h3, cls_has hC, inN_nI (by omega) ha, yC_some, if_neg (by decide), uA h3 (by decide), ul h3 (by decide) a0 (by omega)]
  by_cases z2 : S.1 f 0 a = 7
  · obtain ⟨_, y, _, hy, _, ey, _⟩ := row_7 hC.2.2.2.1.2.1 hN31 hE ha z2
    rw [if_pos z2, if_pos z2, uA h3 (by decide), ul h3 (by decide) a1 (by omega), ey, if_neg (nI_pos (by omega))]
  · obtain ⟨t1, t2⟩ := rF_n 7 (nI a) (-1) (by decide) (by decide)
    rw [if_neg z2, if_neg z2, if_pos (by decide), uk h3, yC_id, t1, t2]
/-- no FETCH is to be in it -/
theorem mkC5 (hO : ClO O x c u p f w q s l) : MkA O f c 2 5 300 := by
  have NE := ClO_ne hO
  obtain ⟨⟨h1, h2, h3, h4, h5, h6, h7⟩, _, _, ⟨l1, l2, l3, l4, l5, l6⟩, _⟩ := hO
  exact ⟨h2, by decide, l5, fun z => NE.1.2.2.1 z.symm, by omega⟩
theorem cls_reqNoFetch (hO : ClO O x c u p f w q s l) (hn : 7000 ≤ n) (hE : E ≤ 16) (hC : CS O f 300 256 S E N) (h01 : ∀ m, S.1 c 5 m = 0 ∨ S.1 c 5 m = 1) {a : Nat} (ha : a < N) :
    ∃ D, (∀ m, D m = 0 ∨ D m = 1) ∧ G_X_requireNoFetch O n x (nI a) S = cond (hf (S.1 f 0) (S.1 f 1) (S.1 f 2) (S.1 f 3) a) (some (.inr xIAE, setF S c 5 D)) (some (.inl (), setF S c 5 D)) := by
  obtain ⟨h1, h2, o1, o4, h3⟩ := ClO_f hO
  have hA := mkC5 hO
  have hN := hC.2.2.1
  have hN31 := (CS_big hC).1
  have hN3 := (CS_big hC).2
  have NE := ClO_ne hO
  have cf : f ≠ c := fun z => NE.1.2.2.1 z.symm
  have e1 := cls_unmark (O := O) (n := n) hn hA hC hN
  have same : ∀ g, CS O f 300 256 (setF S c 5 g) E N := fun g => CS_other hC (setF_q cf)
  let D1 : Nat → Int32 := fun k => if k < N then 0 else S.1 c 5 k
  have e2 := cls_mark (O := O) (n := n) hA (same D1) hN (v := nI a) (Or.inr ⟨a, ha, rfl⟩)
  let D2 : Nat → Int32 := mkd ((setF S c 5 D1).1 c 5) (nI a)
  have s2 : setF (setF S c 5 D1) c 5 D2 = setF S c 5 D2 := setF_setF
  have e3 := cls_spread (O := O) (n := n) hn hE hA (same D2) hN
  rw [setF_same, setF_q cf, setF_setF] at e3
  have d1 : ∀ m, D1 m = 0 ∨ D1 m = 1 := fun m => by
    show (if m < N then (0 : Int32) else S.1 c 5 m) = 0 ∨ (if m < N then (0 : Int32) else S.1 c 5 m) = 1
    by_cases z : m < N
    · rw [if_pos z]; exact Or.inl rfl
    · rw [if_neg z]; exact h01 m
  have d2 : ∀ m, D2 m = 0 ∨ D2 m = 1 := fun m => by
    show mkd ((setF S c 5 D1).1 c 5) (nI a) m = 0 ∨ mkd ((setF S c 5 D1).1 c 5) (nI a) m = 1
    rw [setF_same]
    exact mkd_01 d1 m
  have d2i : ∀ m, m < N → (¬ D2 m = 0 ↔ m = a) := fun m hm => by
    show ¬ mkd ((setF S c 5 D1).1 c 5) (nI a) m = 0 ↔ m = a
    rw [setF_same]
    unfold mkd
    by_cases z : m = a
    · rw [if_pos ⟨nI_pos (by omega), by rw [nI_clamp (by omega)]; exact z⟩]
      exact ⟨fun _ => z, fun _ => by decide⟩
    · rw [if_neg (fun y => z (by rw [nI_clamp (by omega)] at y; exact y.2))]
      show ¬ (if m < N then (0 : Int32) else S.1 c 5 m) = 0 ↔ m = a
      rw [if_pos hm]
      exact ⟨fun y => absurd rfl y, fun y => absurd y z⟩
  have m01 := mpAll_01 (κ := S.1 f 0) (α := S.1 f 1) (β := S.1 f 2) (γ := S.1 f 3) N D2 d2
  have mf := mpAll_fetch hC.2.2.2.1.2.1 hN31 N D2 hN3 (Nat.le_refl N)
  have l5 : 2 < oN O c 5 := by rw [hA.2.2.1]; omega
  have v2 : mpAll (S.1 f 0) (S.1 f 1) (S.1 f 2) (S.1 f 3) N D2 2 = bN (hf (S.1 f 0) (S.1 f 1) (S.1 f 2) (S.1 f 3) a) := by
    cases z : hf (S.1 f 0) (S.1 f 1) (S.1 f 2) (S.1 f 3) a with
    | true =>
      rcases m01 2 with y | y
      · exact absurd y (mf.mpr ⟨a, ha, (d2i a ha).mpr rfl, z⟩)
      · exact y
    | false =>
      rcases m01 2 with y | y
      · exact y
      · obtain ⟨b, hb, db, hz⟩ := mf.mp (by rw [y]; decide)
        rw [(d2i b hb).mp db, z] at hz
        cases hz
  have l2 : ∀ {β : Type} (T : qS) (k : Int32 → Option β), hl 1 O T (c, 5) (2 : Int32) k = k (T.1 c 5 2) := fun T k => ul (m := 2) (d := 1) h2 (by decide) l5 (by decide)
  refine ⟨mpAll (S.1 f 0) (S.1 f 1) (S.1 f 2) (S.1 f 3) N D2, m01, ?_⟩
  unfold G_X_requireNoFetch G_XCore_hasFetch
  rw [uO h1 (by decide), o1, uk h2, uO h2 (by decide), o4, uA h2 (by decide), uk h3, e1, yV_some, uO h2 (by decide), o4, uA h2 (by decide), uk h3]
  rw [show setF S c 5 (fun k => if k < N then 0 else S.1 c 5 k) = setF S c 5 D1 from rfl, e2, yV_some, uO h2 (by decide), o4, uA h2 (by decide), uk h3, show setF (setF S c 5 D1) c 5 (mkd ((setF S c 5 D1).1 c 5) (nI a)) = setF S c 5 D2 from s2, e3, yV_some, uA h2 (by decide), l2, setF_same, v2, hz_bN, yC_some, bN_if]
end CFACE
