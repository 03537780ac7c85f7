/-! THE REFERENCE WORKS VALUES OUT -/
theorem val_le {L : Nat → Nat} {B : Nat} (hB : 1 ≤ B) (h : ∀ c, L c ≤ B) : ∀ c, val L c ≤ B := by
  intro c
  induction c using Nat.strongRecOn with
  | ind c ih =>
    by_cases h0 : p1 c = 0
    · rw [val_k0 h0]; omega
    obtain ⟨a, b, c', d, e⟩ := q_lt (kd_pos h0)
    by_cases k1 : p1 c = 1
    · rw [val_k1 k1]; exact hB
    by_cases k6 : p1 c = 6
    · rw [val_k6 k6]
      by_cases z : val L (q1 c) = val L (q2 c)
      · rw [if_pos z]; exact hB
      · rw [if_neg z]; omega
    by_cases k7 : p1 c = 7
    · rw [val_k7 k7]; omega
    by_cases k8 : p1 c = 8
    · rw [val_k8 k8]
      by_cases z : val L (q1 c) = 1 ∧ val L (q2 c) = 1
      · rw [if_pos z]; exact hB
      · rw [if_neg z]; omega
    by_cases k9 : p1 c = 9
    · rw [val_k9 k9]
      by_cases z : val L (q1 c) = 1
      · rw [if_pos z]; exact ih _ d
      · rw [if_neg z]; exact ih _ e
    rw [val_eq, if_neg h0, if_neg k1, if_neg k6, if_neg k7, if_neg k8, if_neg k9]
    exact h c
def J22 (j : Nat) : Prop := j = 22
/-- the codes of the marked nodes -/
def DC (r A : Nat) (S0 : qS) (c : Nat) : Prop := ∃ m, m < A ∧ dpN S0 r m ∧ rCd S0 r m = c
/-- marks are closed under parts -/
def MClo (r A : Nat) (S0 : qS) : Prop := ∀ p q, p < A → q < A → dpN S0 r p → isPt (S0.1 r 3) (S0.1 r 4) (S0.1 r 5) (S0.1 r 6) p q → dpN S0 r q
section WORK
variable {O : qOb9} {r n E A : Nat} {S0 : qS}
theorem DC_clo (hX : Ext r S0 E A) (hE : E ≤ 16) (hM : MClo r A S0) : Clo (DC r A S0) := by
  intro c p hc hp
  have hA := hX.2.1
  obtain ⟨m, hm, hd, e⟩ := hc
  rw [← e] at hp
  obtain ⟨q, hq, hpt, eq⟩ := (cd_part hX.2.2.1.2.1 (by omega) hE hm).mp hp
  exact ⟨q, by omega, hM m q hm (by omega) hd hpt, eq⟩
theorem DC_ok (hX : Ext r S0 E A) (hE : E ≤ 16) : ∀ c, DC r A S0 c → okc c := by
  have hA := hX.2.1
  rintro c ⟨m, hm, _, e⟩
  rw [← e]
  exact cd_ok hX.2.2.1.2.1 (by omega) hE hm
/-- leaves have the values of L -/
def VL (r A : Nat) (S0 S : qS) (L : Nat → Nat) : Prop := ∀ m, m < A → dpN S0 r m → 2 ≤ p1 (rCd S0 r m) → p1 (rCd S0 r m) ≤ 5 → S.1 r 22 m = nI (L (rCd S0 r m))
/-- leaves' values are small -/
def LB (L : Nat → Nat) : Prop := (∀ c, L c ≤ 100) ∧ ∀ c, p1 c = 2 ∨ p1 c = 4 → L c ≤ 1
theorem and01 {a b : Nat} (ha : a ≤ 1) (hb : b ≤ 1) : nI a &&& nI b = nI (if a = 1 ∧ b = 1 then 1 else 0) := by
  rcases (show a = 0 ∨ a = 1 by omega) with q | q <;> rcases (show b = 0 ∨ b = 1 by omega) with q' | q' <;> subst q <;> subst q' <;> decide
theorem one_sub {a : Nat} (ha : a ≤ 1) : (1 : Int32) - nI a = nI (1 - a) := by
  rcases (show a = 0 ∨ a = 1 by omega) with q | q <;> subst q <;> decide
theorem ref_work_2 (h : Ref O r) (hE : E ≤ 16) (hX : Ext r S0 E A) (hM : MClo r A S0) {L : Nat → Nat} (hL : LB L) : ∀ (d i f : Nat) (S : qS), i + d = A → d < f → rFr r S0 S J22 → VL r A S0 S L → (∀ m, m < i → dpN S0 r m → S.1 r 22 m = nI (val L (rCd S0 r m))) →
    ∃ S', G_XModel_work_2 O n f r (nI i) S = some ((), S') ∧ rFr r S0 S' J22 ∧ VL r A S0 S' L ∧ ∀ m, m < A → dpN S0 r m → S'.1 r 22 m = nI (val L (rCd S0 r m)) := by
  have hA := hX.2.1
  have h2 := hX.1
  have rOk := hX.2.2.1.2.1
  have hDC := DC_clo hX hE hM
  have hok := DC_ok hX hE
  have v01 := val_01 (L := L) hDC hok (fun c _ hk => hL.2 c hk)
  have vle := val_le (L := L) (B := 100) (by decide) hL.1
  intro d
  induction d with
  | zero =>
    intro i f S e hf hF hV hW
    obtain ⟨f, rfl⟩ : ∃ q, f = q + 1 := ⟨f - 1, by omega⟩
    have e0 : i = A := by omega
    subst e0
    rw [G_XModel_work_2, rI h (by decide), hF.2 2 (by unfold J22; omega), h2, if_pos (nI_le (by omega) (by omega))]
    exact ⟨S, rfl, hF, hV, hW⟩
  | succ d ih =>
    intro i f S e hf hF hV hW
    obtain ⟨f, rfl⟩ : ∃ q, f = q + 1 := ⟨f - 1, by omega⟩
    have i0 : i < 6400 := by omega
    have i3 : i < refN 3 := i0
    have i4 : i < refN 4 := i0
    have i5 : i < refN 5 := i0
    have i6 : i < refN 6 := i0
    have i21 : i < refN 21 := i0
    have i22 : i < refN 22 := i0
    have e3 := hF.2 3 (by unfold J22; omega)
    have e4 := hF.2 4 (by unfold J22; omega)
    have e5 := hF.2 5 (by unfold J22; omega)
    have e6 := hF.2 6 (by unfold J22; omega)
    have e21 := hF.2 21 (by unfold J22; omega)
    have hi : i < A := by omega
    have skip : (dpN S0 r i → S.1 r 22 i = nI (val L (rCd S0 r i))) → ∃ S', G_XModel_work_242 O n (G_XModel_work_2 O n f) r (nI i) S = some ((), S') ∧ rFr r S0 S' J22 ∧ VL r A S0 S' L ∧ ∀ m, m < A → dpN S0 r m → S'.1 r 22 m = nI (val L (rCd S0 r m)) := by
      intro hv
      unfold G_XModel_work_242
      rw [hB_eq, nI_1]
      refine ih (i + 1) f S (by omega) (by omega) hF hV (fun m hm hd => ?_)
      by_cases z : m = i
      · subst z; exact hv hd
      · exact hW m (by omega) hd
    have put : ∀ v : Int32, v = nI (val L (rCd S0 r i)) → ¬ (2 ≤ p1 (rCd S0 r i) ∧ p1 (rCd S0 r i) ≤ 5) → ∃ S', hw 0 O S (r, 22) (nI i) v (fun S1 => G_XModel_work_242 O n (G_XModel_work_2 O n f) r (nI i) S1) = some ((), S') ∧ rFr r S0 S' J22 ∧ VL r A S0 S' L ∧ ∀ m, m < A → dpN S0 r m → S'.1 r 22 m = nI (val L (rCd S0 r m)) := by
      intro v hv hk
      rw [rw' h (by decide) (by decide) i22]
      unfold G_XModel_work_242
      rw [hB_eq, nI_1]
      refine ih (i + 1) f _ (by omega) (by omega) (hF.up rfl) (fun m hm hd k1 k2 => ?_) (fun m hm hd => ?_)
      · rw [up3_o (fun z => hk (by rw [← z]; exact ⟨k1, k2⟩))]
        exact hV m hm hd k1 k2
      · by_cases z : m = i
        · rw [z, up3_v]; exact hv
        · rw [up3_o z]; exact hW m (by omega) hd
    rw [G_XModel_work_2, rI h (by decide), hF.2 2 (by unfold J22; omega), h2, if_neg (nI_ge (by omega) (by omega)), rA h (by decide), rl h (by decide) (by decide) i21, e21]
    by_cases d0 : S0.1 r 21 i = 0
    · rw [if_pos d0]
      exact skip (fun q => absurd d0 q)
    rw [if_neg d0, rA h (by decide), rl h (by decide) (by decide) i3, e3]
    have leaf : 2 ≤ p1 (rCd S0 r i) → p1 (rCd S0 r i) ≤ 5 → (dpN S0 r i → S.1 r 22 i = nI (val L (rCd S0 r i))) := fun k1 k2 hd => by
      rw [val_leaf ⟨k1, k2⟩]; exact hV i hi hd k1 k2
    have part : ∀ x, x < i → isPt (S0.1 r 3) (S0.1 r 4) (S0.1 r 5) (S0.1 r 6) i x → dpN S0 r x ∧ S.1 r 22 x = nI (val L (rCd S0 r x)) := fun x hx hp => by
      have hd := hM i x hi (by omega) d0 hp
      exact ⟨hd, hW x hx hd⟩
    have t01 : ∀ x, x < i → dpN S0 r x → wd (S0.1 r 3) (S0.1 r 5) x = false → val L (rCd S0 r x) ≤ 1 := fun x hx hd hw => v01 _ ⟨x, by omega, hd, rfl⟩ (by rw [cd_wc rOk (by omega) hE x (by omega)]; exact hw)
    rcases cd_row rOk (by omega) hE hi with ⟨h0, k, -, ec⟩ | ⟨h0, a, ha, k, ea, ec⟩ | ⟨h0, a, ha, k, ea, ec⟩ | ⟨h0, x, g, hx, hg, k, ex, ey, eg, wx, ec⟩ | ⟨h0, x, y, g, hx, hy, hg, k, ex, ey, eg, wx, wy, ec⟩ | ⟨h0, x, y, hx, hy, k, ex, ey, ez, wx, wy, ec⟩ | ⟨h0, x, _, hx, k, ex, ey, ez, _, wx, ec⟩ | ⟨h0, x, y, _, hx, hy, k, ex, ey, ez, wx, wy, ec⟩ | ⟨h0, x, y, z, _, hx, hy, hz, _, k, ex, ey, ez, wx, we, ec⟩
    · rcases (show i = 0 ∨ i = 1 ∨ i = 2 by omega) with q | q | q
      · subst q
        rw [if_pos (by rw [k]; rfl), rA h (by decide)]
        refine put 0 ?_ (by rw [show rCd S0 r 0 = pr 0 0 from ec, p1_pr]; omega)
        rw [show rCd S0 r 0 = cF from ec, val_F]; rfl
      · subst q
        rw [if_neg (by rw [k]; decide), if_pos (by rw [k]; rfl), rA h (by decide)]
        refine put 1 ?_ (by rw [show rCd S0 r 1 = pr 1 0 from ec, p1_pr]; omega)
        rw [show rCd S0 r 1 = cT from ec, val_T]; rfl
      · subst q
        rw [if_neg (by rw [k]; decide), if_neg (by rw [k]; decide), if_pos (by rw [k]; rfl)]
        exact skip (leaf (by rw [show rCd S0 r 2 = pr 2 0 from ec, p1_pr]; omega) (by rw [show rCd S0 r 2 = pr 2 0 from ec, p1_pr]; omega))
    · have ec' : p1 (rCd S0 r i) = 3 := by rw [show rCd S0 r i = _ from ec, p1_pr]
      rw [k, if_neg (by decide), if_neg (by decide), if_neg (by decide), if_pos (by decide)]
      exact skip (leaf (by omega) (by omega))
    · have ec' : p1 (rCd S0 r i) = 4 := by rw [show rCd S0 r i = _ from ec, p1_pr]
      rw [k, if_neg (by decide), if_neg (by decide), if_neg (by decide), if_neg (by decide), if_pos (by decide)]
      exact skip (leaf (by omega) (by omega))
    · have ec' : p1 (rCd S0 r i) = 5 := by rw [show rCd S0 r i = _ from ec, p1_pr]
      rw [k, if_neg (by decide), if_neg (by decide), if_neg (by decide), if_neg (by decide), if_neg (by decide), if_pos (by decide)]
      exact skip (leaf (by omega) (by omega))
    · have ec' : p1 (rCd S0 r i) = 5 := by rw [show rCd S0 r i = _ from ec, p1_pr]
      rw [k, if_neg (by decide), if_neg (by decide), if_neg (by decide), if_neg (by decide), if_neg (by decide), if_pos (by decide)]
      exact skip (leaf (by omega) (by omega))
    · have ec' : p1 (rCd S0 r i) = 6 := by rw [show rCd S0 r i = _ from ec, p1_pr]
      obtain ⟨dx, vx⟩ := part x (by omega) ⟨by rw [k]; decide, Or.inl ex⟩
      obtain ⟨dy, vy⟩ := part y hy ⟨by rw [k]; decide, Or.inr (Or.inl ey)⟩
      have x22 : x < refN 22 := by show x < 6400; omega
      have y22 : y < refN 22 := by show y < 6400; omega
      rw [k, if_neg (by decide), if_neg (by decide), if_neg (by decide), if_neg (by decide), if_neg (by decide), if_neg (by decide), if_pos (by decide)]
      rw [rA h (by decide), rA h (by decide), rA h (by decide), rl h (by decide) (by decide) i4, e4, ex, rl h (by decide) (by decide) x22, vx, rA h (by decide), rA h (by decide), rl h (by decide) (by decide) i5, e5, ey, rl h (by decide) (by decide) y22, vy]
      have q := put (nI (val L (rCd S0 r i))) rfl (by omega)
      rw [show rCd S0 r i = _ from ec, val_E] at q
      have b1 := vle (rCd S0 r x)
      have b2 := vle (rCd S0 r y)
      by_cases z : val L (rCd S0 r x) = val L (rCd S0 r y)
      · rw [if_pos (by rw [z])]
        rw [if_pos z] at q
        exact q
      · rw [if_neg (fun w => z ((nI_eq (by omega) (by omega)).mp w))]
        rw [if_neg z] at q
        exact q
    · have ec' : p1 (rCd S0 r i) = 7 := by rw [show rCd S0 r i = _ from ec, p1_pr]
      obtain ⟨dx, vx⟩ := part x hx ⟨by rw [k]; decide, Or.inl ex⟩
      have x22 : x < refN 22 := by show x < 6400; omega
      rw [k, if_neg (by decide), if_neg (by decide), if_neg (by decide), if_neg (by decide), if_neg (by decide), if_neg (by decide), if_neg (by decide), if_pos (by decide)]
      rw [rA h (by decide), rA h (by decide), rA h (by decide), rl h (by decide) (by decide) i4, e4, ex, rl h (by decide) (by decide) x22, vx]
      have q := put (nI (val L (rCd S0 r i))) rfl (by omega)
      rw [show rCd S0 r i = _ from ec, val_N] at q
      rw [one_sub (t01 x hx dx wx)]
      exact q
    · have ec' : p1 (rCd S0 r i) = 8 := by rw [show rCd S0 r i = _ from ec, p1_pr]
      obtain ⟨dx, vx⟩ := part x (by omega) ⟨by rw [k]; decide, Or.inl ex⟩
      obtain ⟨dy, vy⟩ := part y hy ⟨by rw [k]; decide, Or.inr (Or.inl ey)⟩
      have x22 : x < refN 22 := by show x < 6400; omega
      have y22 : y < refN 22 := by show y < 6400; omega
      rw [k, if_neg (by decide), if_neg (by decide), if_neg (by decide), if_neg (by decide), if_neg (by decide), if_neg (by decide), if_neg (by decide), if_neg (by decide), if_pos (by decide)]
      rw [rA h (by decide), rA h (by decide), rA h (by decide), rl h (by decide) (by decide) i4, e4, ex, rl h (by decide) (by decide) x22, vx, rA h (by decide), rA h (by decide), rl h (by decide) (by decide) i5, e5, ey, rl h (by decide) (by decide) y22, vy]
      have q := put (nI (val L (rCd S0 r i))) rfl (by omega)
      rw [show rCd S0 r i = _ from ec, val_B] at q
      rw [and01 (t01 x (by omega) dx wx) (t01 y hy dy wy)]
      exact q
    · have ec' : p1 (rCd S0 r i) = 9 := by rw [show rCd S0 r i = _ from ec, p1_pr]
      obtain ⟨dx, vx⟩ := part x hx ⟨by rw [k]; decide, Or.inl ex⟩
      obtain ⟨dy, vy⟩ := part y hy ⟨by rw [k]; decide, Or.inr (Or.inl ey)⟩
      obtain ⟨dz, vz⟩ := part z hz ⟨by rw [k]; decide, Or.inr (Or.inr ⟨k, ez⟩)⟩
      have x22 : x < refN 22 := by show x < 6400; omega
      have y22 : y < refN 22 := by show y < 6400; omega
      have z22 : z < refN 22 := by show z < 6400; omega
      rw [k, if_neg (by decide), if_neg (by decide), if_neg (by decide), if_neg (by decide), if_neg (by decide), if_neg (by decide), if_neg (by decide), if_neg (by decide), if_neg (by decide), if_pos (by decide)]
      rw [rA h (by decide), rA h (by decide), rA h (by decide), rl h (by decide) (by decide) i4, e4, ex, rl h (by decide) (by decide) x22, vx]
      have q := put (nI (val L (rCd S0 r i))) rfl (by omega)
      rw [show rCd S0 r i = _ from ec, val_C] at q
      have b1 := vle (rCd S0 r x)
      by_cases w : val L (rCd S0 r x) = 1
      · rw [if_pos (show nI (val L (rCd S0 r x)) = 1 by rw [w]; rfl), rA h (by decide), rA h (by decide), rl h (by decide) (by decide) i5, e5, ey, rl h (by decide) (by decide) y22, vy]
        rw [if_pos w] at q
        exact q
      · rw [if_neg (show ¬ nI (val L (rCd S0 r x)) = 1 from fun z' => w ((nI_eq (a := val L (rCd S0 r x)) (b := 1) (by omega) (by decide)).mp z')), rA h (by decide), rA h (by decide), rl h (by decide) (by decide) i6, e6, ez, rl h (by decide) (by decide) z22, vz]
        rw [if_neg w] at q
        exact q
end WORK
