/-! Marks of the reference -/
/-- a field's whole row replaced -/
def setF (S : qS) (r j : Nat) (g : Nat → Int32) : qS := (upA S.1 r j g, S.2)
theorem setF_same {S : qS} {r j : Nat} {g : Nat → Int32} : (setF S r j g).1 r j = g := by
  funext i
  exact upA_same _ _ _ _ _
theorem setF_ne {S : qS} {r j j' : Nat} {g : Nat → Int32} (h : j' ≠ j) : (setF S r j g).1 r j' = S.1 r j' := by
  funext i
  exact upA_ne (fun q => h q.2)
theorem setF_setF {S : qS} {r j : Nat} {g g' : Nat → Int32} : setF (setF S r j g) r j g' = setF S r j g' := by
  refine Prod.ext ?_ rfl
  funext o j' i
  show upA (upA S.1 r j g) r j g' o j' i = upA S.1 r j g' o j' i
  unfold upA
  by_cases h : o = r ∧ j' = j
  · rw [if_pos h, if_pos h]
  · rw [if_neg h, if_neg h, if_neg h]
theorem setF_self {S : qS} {r j : Nat} : setF S r j (S.1 r j) = S := by
  refine Prod.ext ?_ rfl
  funext o j' i
  show upA S.1 r j (S.1 r j) o j' i = S.1 o j' i
  unfold upA
  by_cases h : o = r ∧ j' = j
  · rw [if_pos h, h.1, h.2]
  · rw [if_neg h]
theorem setF_up {S : qS} {r j i : Nat} {v : Int32} : ((up3 S.1 r j i v, S.2) : qS) = setF S r j (fun i' => if i' = i then v else S.1 r j i') := by
  refine Prod.ext ?_ rfl
  funext o j' i'
  show up3 S.1 r j i v o j' i' = upA S.1 r j (fun i' => if i' = i then v else S.1 r j i') o j' i'
  unfold up3 upA
  by_cases h : o = r ∧ j' = j
  · rw [if_pos h]
    by_cases q : i' = i
    · rw [if_pos ⟨h.1, h.2, q⟩]; exact (if_pos q).symm
    · rw [if_neg (fun z => q z.2.2), h.1, h.2]; exact (if_neg q).symm
  · rw [if_neg h, if_neg (fun z => h ⟨z.1, z.2.1⟩)]
theorem setF_only {S : qS} {r j : Nat} {g : Nat → Int32} : rOnly r S (setF S r j g) := ⟨rfl, fun o ho => by funext j' i'; exact upA_ne (fun q => ho q.1)⟩
/-- a part: none, or a node of the store -/
def pB (x : Int32) : Prop := x < 0 ∨ ∃ m, m < 6400 ∧ x = nI m
def mkd (D : Nat → Int32) (x : Int32) : Nat → Int32 := fun i => if ¬ x < 0 ∧ i = x.toNatClampNeg then 1 else D i
theorem nar_1 : vp_nar .boolean (1 : Int32) = 1 := by decide
theorem nar_0 : vp_nar .boolean (0 : Int32) = 0 := by decide
section MARKS
variable {O : qOb9} {r n : Nat} {S : qS}
theorem ref_mark (h : Ref O r) {x : Int32} (hx : pB x) : G_XModel_mark O n r x S = some ((), setF S r 21 (mkd (S.1 r 21) x)) := by
  unfold G_XModel_mark G_XModel_mark_11
  rcases hx with hx | ⟨m, hm, rfl⟩
  · rw [if_pos hx]
    have e : mkd (S.1 r 21) x = S.1 r 21 := by
      funext i
      unfold mkd
      rw [if_neg (fun q => q.1 hx)]
    rw [e, setF_self]
  · have m21 : m < refN 21 := hm
    rw [if_neg (nI_pos (by omega)), rA h (by decide), rw' h (by decide) (by decide) m21, nar_1, setF_up]
    have e : (fun i' => if i' = m then (1 : Int32) else S.1 r 21 i') = mkd (S.1 r 21) (nI m) := by
      funext i
      unfold mkd
      rw [nI_clamp (by omega)]
      by_cases q : i = m
      · rw [if_pos q, if_pos ⟨nI_pos (by omega), q⟩]
      · rw [if_neg q, if_neg (fun z => q z.2)]
    rw [e]
def mpStep (κ α β γ : Nat → Int32) (m : Nat) (D : Nat → Int32) : Nat → Int32 :=
  if D m = 0 then D else if κ m ≤ 4 then D else if κ m = 9 then mkd (mkd (mkd D (α m)) (β m)) (γ m) else mkd (mkd D (α m)) (β m)
def mpAll (κ α β γ : Nat → Int32) : Nat → (Nat → Int32) → Nat → Int32
  | 0, D => D
  | m + 1, D => if m ≤ 2 then D else mpAll κ α β γ m (mpStep κ α β γ m D)
theorem ref_markParts_7 (h : Ref O r) {A : Nat} (hA : A ≤ 6400) (hp : ∀ m, m < A → pB (S.1 r 4 m) ∧ pB (S.1 r 5 m) ∧ pB (S.1 r 6 m)) : ∀ (m f : Nat) (D : Nat → Int32), m ≤ A → m < f →
    G_XModel_markParts_7 O n f r (nI m - 1) (setF S r 21 D) = some ((), setF S r 21 (mpAll (S.1 r 3) (S.1 r 4) (S.1 r 5) (S.1 r 6) m D)) := by
  intro m
  induction m with
  | zero =>
    intro f D _ hf
    obtain ⟨f, rfl⟩ : ∃ q, f = q + 1 := ⟨f - 1, by omega⟩
    rw [G_XModel_markParts_7, if_pos (by decide)]
    rfl
  | succ m ih =>
    intro f D hm hf
    obtain ⟨f, rfl⟩ : ∃ q, f = q + 1 := ⟨f - 1, by omega⟩
    rw [nI_pred, G_XModel_markParts_7]
    unfold mpAll
    by_cases h2 : m ≤ 2
    · rw [if_pos (show nI m ≤ (2 : Int32) from nI_le (b := 2) h2 (by decide)), if_pos h2]
    · rw [if_neg (show ¬ nI m ≤ (2 : Int32) from nI_ge (a := 2) (b := m) (by omega) (by omega)), if_neg h2]
      have m0 : m < 6400 := by omega
      have m21 : m < refN 21 := m0
      have m3 : m < refN 3 := m0
      have m4 : m < refN 4 := m0
      have m5 : m < refN 5 := m0
      have m6 : m < refN 6 := m0
      obtain ⟨p4, p5, p6⟩ := hp m (by omega)
      have go : ∀ D', G_XModel_markParts_72 O n (G_XModel_markParts_7 O n f) r (nI m) (setF S r 21 D') = some ((), setF S r 21 (mpAll (S.1 r 3) (S.1 r 4) (S.1 r 5) (S.1 r 6) m D')) := by
        intro D'
        unfold G_XModel_markParts_72
        rw [hB_eq, show nI m + (-1 : Int32) = nI m - 1 from (Int32.sub_eq_add_neg _ _).symm]
        exact ih f D' (by omega) (by omega)
      rw [rA h (by decide), rl h (by decide) (by decide) m21, setF_same]
      unfold mpStep
      by_cases d0 : D m = 0
      · rw [if_pos d0, if_pos d0]
        exact go D
      · rw [if_neg d0, if_neg d0, rA h (by decide), rl h (by decide) (by decide) m3, setF_ne (by decide)]
        by_cases k4 : S.1 r 3 m ≤ 4
        · rw [if_pos k4, if_pos k4]
          exact go D
        · rw [if_neg k4, if_neg k4, rA h (by decide), rl h (by decide) (by decide) m4, setF_ne (by decide), rk h, ref_mark h p4, yV_some, setF_setF, setF_same]
          rw [rA h (by decide), rl h (by decide) (by decide) m5, setF_ne (by decide), rk h, ref_mark h p5, yV_some, setF_setF, setF_same]
          rw [rA h (by decide), rl h (by decide) (by decide) m3, setF_ne (by decide)]
          by_cases k9 : S.1 r 3 m = 9
          · rw [if_pos k9, if_pos k9, rA h (by decide), rl h (by decide) (by decide) m6, setF_ne (by decide), rk h, ref_mark h p6, yV_some, setF_setF, setF_same]
            exact go _
          · rw [if_neg k9, if_neg k9]
            exact go _
theorem ref_markParts (h : Ref O r) (hn : 7000 ≤ n) {A : Nat} (hA : A ≤ 6400) (hall : S.1 r 2 0 = nI A) (hp : ∀ m, m < A → pB (S.1 r 4 m) ∧ pB (S.1 r 5 m) ∧ pB (S.1 r 6 m)) :
    G_XModel_markParts O n r S = some ((), setF S r 21 (mpAll (S.1 r 3) (S.1 r 4) (S.1 r 5) (S.1 r 6) A (S.1 r 21))) := by
  unfold G_XModel_markParts
  rw [rI h (by decide), hall, hB_eq]
  have q := ref_markParts_7 (O := O) (n := n) (S := S) h hA hp A n (S.1 r 21) (Nat.le_refl A) (by omega)
  rw [setF_self] at q
  exact q
theorem ref_unmark_2 (h : Ref O r) {A : Nat} (hA : A ≤ 6400) (hall : S.1 r 2 0 = nI A) : ∀ (d i f : Nat) (D : Nat → Int32), i + d = A → d < f →
    G_XModel_unmark_2 O n f r (nI i) (setF S r 21 D) = some ((), setF S r 21 (fun k => if i ≤ k ∧ k < A then 0 else D k)) := by
  intro d
  induction d with
  | zero =>
    intro i f D e hf
    obtain ⟨f, rfl⟩ : ∃ q, f = q + 1 := ⟨f - 1, by omega⟩
    rw [G_XModel_unmark_2, rI h (by decide), setF_ne (by decide), hall, if_pos (nI_le (by omega) (by omega))]
    have e2 : (fun k => if i ≤ k ∧ k < A then (0 : Int32) else D k) = D := by
      funext k
      rw [if_neg (by omega)]
    rw [e2]
  | succ d ih =>
    intro i f D e hf
    obtain ⟨f, rfl⟩ : ∃ q, f = q + 1 := ⟨f - 1, by omega⟩
    have i0 : i < 6400 := by omega
    have i21 : i < refN 21 := i0
    rw [G_XModel_unmark_2, rI h (by decide), setF_ne (by decide), hall, if_neg (nI_ge (by omega) (by omega)), rA h (by decide), rw' h (by decide) (by decide) i21, nar_0, setF_up, setF_setF, setF_same, hB_eq, nI_1, ih (i + 1) f _ (by omega) (by omega)]
    have e2 : (fun k => if i + 1 ≤ k ∧ k < A then (0 : Int32) else if k = i then 0 else D k) = (fun k => if i ≤ k ∧ k < A then 0 else D k) := by
      funext k
      by_cases q : k = i
      · rw [if_neg (by omega), if_pos q, if_pos (by omega)]
      · rw [if_neg q]
        by_cases q2 : i + 1 ≤ k ∧ k < A
        · rw [if_pos q2, if_pos (by omega)]
        · rw [if_neg q2, if_neg (by omega)]
    rw [e2]
theorem ref_unmark (h : Ref O r) (hn : 7000 ≤ n) {A : Nat} (hA : A ≤ 6400) (hall : S.1 r 2 0 = nI A) : G_XModel_unmark O n r S = some ((), setF S r 21 (fun k => if k < A then 0 else S.1 r 21 k)) := by
  unfold G_XModel_unmark
  have q := ref_unmark_2 (O := O) (n := n) (S := S) h hA hall A 0 n (S.1 r 21) (by omega) (by omega)
  rw [setF_self, nI_0] at q
  rw [q]
  have e2 : (fun k => if 0 ≤ k ∧ k < A then (0 : Int32) else S.1 r 21 k) = (fun k => if k < A then 0 else S.1 r 21 k) := by
    funext k
    by_cases q : k < A
    · rw [if_pos q, if_pos ⟨Nat.zero_le k, q⟩]
    · rw [if_neg q, if_neg (fun z => q z.2)]
  rw [e2]
end MARKS
