/-! THE REFERENCE GATHERS -/
theorem up3_f {S : qS} {r j i j' : Nat} {v : Int32} (h : j' ≠ j) : ((up3 S.1 r j i v, S.2) : qS).1 r j' = S.1 r j' := by
  funext k
  exact up3_ne (fun q => h q.2)
theorem up3_v {S : qS} {r j i : Nat} {v : Int32} : ((up3 S.1 r j i v, S.2) : qS).1 r j i = v := by
  show up3 S.1 r j i v r j i = v
  rw [up3_at, if_pos ⟨rfl, rfl⟩]
theorem up3_o {S : qS} {r j i k : Nat} {v : Int32} (h : k ≠ i) : ((up3 S.1 r j i v, S.2) : qS).1 r j k = S.1 r j k := by
  show up3 S.1 r j i v r j k = _
  rw [up3_at, if_neg (fun q => h q.2)]
/-- marked nodes of a kind -/
def gP (k : Int32) (κ D : Nat → Int32) (m : Nat) : Bool := !decide (D m = 0) && decide (κ m = k)
def gW (κ D : Nat → Int32) (m : Nat) : Bool := !decide (D m = 0) && (decide (κ m = 3) || decide (κ m = 5))
def gT (κ D : Nat → Int32) (m : Nat) : Bool := !decide (D m = 0) && (decide (κ m = 4) || decide (κ m = 2))
section GATHER
variable {O : qOb9} {r n A : Nat} {S0 : qS}
/-- the same but for some fields -/
def rFr (r : Nat) (S0 S : qS) (J : Nat → Prop) : Prop := rOnly r S0 S ∧ ∀ j, ¬ J j → S.1 r j = S0.1 r j
theorem rFr.refl {J : Nat → Prop} : rFr r S0 S0 J := ⟨rOnly.refl, fun _ _ => rfl⟩
theorem rFr.up {J : Nat → Prop} {S : qS} {j i : Nat} {v : Int32} (h : rFr r S0 S J) (hj : J j) : rFr r S0 (up3 S.1 r j i v, S.2) J :=
  ⟨h.1.trans rOnly.up, fun j' hj' => by rw [up3_f (fun e => hj' (by rw [e]; exact hj))]; exact h.2 j' hj'⟩
theorem rFr.trans {J : Nat → Prop} {S S1 : qS} (h : rFr r S0 S J) (h1 : rFr r S S1 J) : rFr r S0 S1 J := ⟨h.1.trans h1.1, fun j hj => (h1.2 j hj).trans (h.2 j hj)⟩
theorem rFr.mono {J J' : Nat → Prop} {S : qS} (h : rFr r S0 S J) (hJ : ∀ j, J j → J' j) : rFr r S0 S J' := ⟨h.1, fun j hj => h.2 j (fun q => hj (hJ j q))⟩
def J26 (j : Nat) : Prop := j = 29 ∨ j = 30
theorem ref_gather_26 (h : Ref O r) (hA : A ≤ 6400) (h2 : S0.1 r 2 0 = nI A) : ∀ (d i f : Nat) (S : qS), i + d = A → d < f → rFr r S0 S J26 → S.1 r 29 0 = nI (cnt (gW (S0.1 r 3) (S0.1 r 21)) i) → S.1 r 30 0 = nI (cnt (gT (S0.1 r 3) (S0.1 r 21)) i) →
    ∃ S1, rFr r S0 S1 J26 ∧ S1.1 r 29 0 = nI (cnt (gW (S0.1 r 3) (S0.1 r 21)) A) ∧ S1.1 r 30 0 = nI (cnt (gT (S0.1 r 3) (S0.1 r 21)) A) ∧
      G_XModel_gather_26 O n f r (nI i) S = if cnt (gW (S0.1 r 3) (S0.1 r 21)) A ≤ 7 ∧ cnt (gT (S0.1 r 3) (S0.1 r 21)) A ≤ 6 then G_XModel_gather_167 O n n r 0 S1 else some ((), S1) := by
  intro d
  induction d with
  | zero =>
    intro i f S e hf hF hw ht
    obtain ⟨f, rfl⟩ : ∃ q, f = q + 1 := ⟨f - 1, by omega⟩
    have e0 : i = A := by omega
    subst e0
    refine ⟨S, hF, hw, ht, ?_⟩
    have b1 := cnt_le_n (P := gW (S0.1 r 3) (S0.1 r 21)) i
    have b2 := cnt_le_n (P := gT (S0.1 r 3) (S0.1 r 21)) i
    rw [G_XModel_gather_26, rI h (by decide), hF.2 2 (by unfold J26; omega), h2, if_pos (nI_le (by omega) (by omega)), rI h (by decide), hw]
    generalize cnt (gW (S0.1 r 3) (S0.1 r 21)) i = a at hw b1 ⊢
    generalize cnt (gT (S0.1 r 3) (S0.1 r 21)) i = b at ht b2 ⊢
    by_cases h7 : a ≤ 7
    · have : ¬ (7 : Int32) < nI a := fun q => by have := (nI_ltI (a := 7) (b := a) (by decide) (by omega)).mp q; omega
      rw [if_neg this, rI h (by decide), ht]
      by_cases h6 : b ≤ 6
      · rw [if_pos (show nI b ≤ (6 : Int32) from nI_le (b := 6) h6 (by decide)), if_pos ⟨h7, h6⟩]
      · rw [if_neg (show ¬ nI b ≤ (6 : Int32) from nI_ge (a := 6) (b := b) (by omega) (by omega)), if_neg (fun q => h6 q.2)]
        rfl
    · have : (7 : Int32) < nI a := (nI_ltI (a := 7) (b := a) (by decide) (by omega)).mpr (by omega)
      rw [if_pos this, if_neg (fun q => h7 q.1)]
      rfl
  | succ d ih =>
    intro i f S e hf hF hw ht
    obtain ⟨f, rfl⟩ : ∃ q, f = q + 1 := ⟨f - 1, by omega⟩
    have i0 : i < 6400 := by omega
    have i3 : i < refN 3 := i0
    have i21 : i < refN 21 := i0
    have e3 := hF.2 3 (by unfold J26; omega)
    have e21 := hF.2 21 (by unfold J26; omega)
    -- the two counts go up
    have go : ∀ (x y : Int32), x = nI (if gW (S0.1 r 3) (S0.1 r 21) i = true then 1 else 0) → y = nI (if gT (S0.1 r 3) (S0.1 r 21) i = true then 1 else 0) → ∃ S1, rFr r S0 S1 J26 ∧ S1.1 r 29 0 = nI (cnt (gW (S0.1 r 3) (S0.1 r 21)) A) ∧ S1.1 r 30 0 = nI (cnt (gT (S0.1 r 3) (S0.1 r 21)) A) ∧
        G_XModel_gather_103 O n (G_XModel_gather_26 O n f) r (nI i) x y S = if cnt (gW (S0.1 r 3) (S0.1 r 21)) A ≤ 7 ∧ cnt (gT (S0.1 r 3) (S0.1 r 21)) A ≤ 6 then G_XModel_gather_167 O n n r 0 S1 else some ((), S1) := by
      intro x y hx hy
      have f1 : G_XModel_gather_103 O n (G_XModel_gather_26 O n f) r (nI i) x y S = G_XModel_gather_118 O n (G_XModel_gather_26 O n f) r (nI i) y r (nI (cnt (gW (S0.1 r 3) (S0.1 r 21)) i)) x S := by
        unfold G_XModel_gather_103
        rw [rI h (by decide), hw, hx]
        by_cases q : gW (S0.1 r 3) (S0.1 r 21) i = true
        · rw [if_pos q, if_neg (show ¬ nI 1 = 0 by decide)]; rfl
        · rw [if_neg q, if_pos (show nI 0 = 0 by decide)]; rfl
      have v1 : ((up3 S.1 r 29 0 (nI (cnt (gW (S0.1 r 3) (S0.1 r 21)) (i + 1))), S.2) : qS).1 r 29 0 = _ := up3_v
      have o1 : ((up3 S.1 r 29 0 (nI (cnt (gW (S0.1 r 3) (S0.1 r 21)) (i + 1))), S.2) : qS).1 r 30 = S.1 r 30 := up3_f (by decide)
      have fr1 : rFr r S0 (up3 S.1 r 29 0 (nI (cnt (gW (S0.1 r 3) (S0.1 r 21)) (i + 1))), S.2) J26 := hF.up (Or.inl rfl)
      have f2 : G_XModel_gather_118 O n (G_XModel_gather_26 O n f) r (nI i) y r (nI (cnt (gW (S0.1 r 3) (S0.1 r 21)) i)) x S = G_XModel_gather_136 O n (G_XModel_gather_26 O n f) r (nI i) r (nI (cnt (gT (S0.1 r 3) (S0.1 r 21)) i)) y (up3 S.1 r 29 0 (nI (cnt (gW (S0.1 r 3) (S0.1 r 21)) (i + 1))), S.2) := by
        unfold G_XModel_gather_118
        rw [rP h (by decide), hx, nI_add, ← cnt_s, rI h (by decide), o1, ht, hy]
        by_cases q : gT (S0.1 r 3) (S0.1 r 21) i = true
        · rw [if_pos q, if_neg (show ¬ nI 1 = 0 by decide)]; rfl
        · rw [if_neg q, if_pos (show nI 0 = 0 by decide)]; rfl
      rw [f1, f2]
      generalize ((up3 S.1 r 29 0 (nI (cnt (gW (S0.1 r 3) (S0.1 r 21)) (i + 1))), S.2) : qS) = T at v1 fr1
      unfold G_XModel_gather_136
      rw [rP h (by decide), hy, nI_add, ← cnt_s, hB_eq, nI_1]
      refine ih (i + 1) f _ (by omega) (by omega) (fr1.up (Or.inr rfl)) ?_ up3_v
      rw [up3_f (by decide)]; exact v1
    have g63 : ∀ S, G_XModel_gather_63 O n (G_XModel_gather_26 O n f) r (nI i) S = G_XModel_gather_68 O n (G_XModel_gather_26 O n f) r (nI i) 1 S := fun _ => rfl
    have g67 : ∀ S, G_XModel_gather_67 O n (G_XModel_gather_26 O n f) r (nI i) S = G_XModel_gather_68 O n (G_XModel_gather_26 O n f) r (nI i) 0 S := fun _ => rfl
    have g98 : ∀ x S, G_XModel_gather_98 O n (G_XModel_gather_26 O n f) r (nI i) x S = G_XModel_gather_103 O n (G_XModel_gather_26 O n f) r (nI i) x 1 S := fun _ _ => rfl
    have g102 : ∀ x S, G_XModel_gather_102 O n (G_XModel_gather_26 O n f) r (nI i) x S = G_XModel_gather_103 O n (G_XModel_gather_26 O n f) r (nI i) x 0 S := fun _ _ => rfl
    rw [G_XModel_gather_26, rI h (by decide), hF.2 2 (by unfold J26; omega), h2, if_neg (nI_ge (by omega) (by omega)), rA h (by decide), rl h (by decide) (by decide) i21, e21]
    have g68 : ∀ x, G_XModel_gather_68 O n (G_XModel_gather_26 O n f) r (nI i) x S = G_XModel_gather_103 O n (G_XModel_gather_26 O n f) r (nI i) x (nI (if gT (S0.1 r 3) (S0.1 r 21) i = true then 1 else 0)) S := by
      intro x
      unfold G_XModel_gather_68 gT
      rw [rA h (by decide), rl h (by decide) (by decide) i21, e21]
      by_cases d0 : S0.1 r 21 i = 0
      · rw [if_pos d0, g102, decide_eq_true d0]; rfl
      · rw [if_neg d0, rA h (by decide), rl h (by decide) (by decide) i3, e3, decide_eq_false d0]
        by_cases k4 : S0.1 r 3 i = 4
        · rw [if_pos k4, g98, decide_eq_true k4]; rfl
        · rw [if_neg k4, rA h (by decide), rl h (by decide) (by decide) i3, e3, decide_eq_false k4]
          by_cases k2 : S0.1 r 3 i = 2
          · rw [if_pos k2, g98, decide_eq_true k2]; rfl
          · rw [if_neg k2, g102, decide_eq_false k2]; rfl
    by_cases d0 : S0.1 r 21 i = 0
    · rw [if_pos d0, g67, g68]
      refine go _ _ ?_ rfl
      unfold gW
      rw [decide_eq_true d0]; rfl
    · rw [if_neg d0, rA h (by decide), rl h (by decide) (by decide) i3, e3]
      by_cases k3 : S0.1 r 3 i = 3
      · rw [if_pos k3, g63, g68]
        refine go _ _ ?_ rfl
        unfold gW
        rw [decide_eq_false d0, decide_eq_true k3]; rfl
      · rw [if_neg k3, rA h (by decide), rl h (by decide) (by decide) i3, e3]
        by_cases k5 : S0.1 r 3 i = 5
        · rw [if_pos k5, g63, g68]
          refine go _ _ ?_ rfl
          unfold gW
          rw [decide_eq_false d0, decide_eq_false k3, decide_eq_true k5]; rfl
        · rw [if_neg k5, g67, g68]
          refine go _ _ ?_ rfl
          unfold gW
          rw [decide_eq_false d0, decide_eq_false k3, decide_eq_false k5]; rfl
/-- a row lists the nodes of P below i -/
def Lists (g : Nat → Int32) (P : Nat → Bool) (b i : Nat) : Prop := ∀ m, m < i → P m = true → g (b + cnt P m) = nI m
theorem Lists_put {g : Nat → Int32} {P : Nat → Bool} {b i : Nat} (hL : Lists g P b i) (hp : P i = true) : Lists (fun k => if k = b + cnt P i then nI i else g k) P b (i + 1) := by
  intro m hm hpm
  show (if b + cnt P m = b + cnt P i then nI i else g (b + cnt P m)) = nI m
  by_cases e : m = i
  · rw [e, if_pos rfl]
  · have := cnt_lt (show m < i by omega) hpm
    rw [if_neg (by omega)]
    exact hL m (by omega) hpm
theorem Lists_skip {g : Nat → Int32} {P : Nat → Bool} {b i : Nat} (hL : Lists g P b i) (hp : P i = false) : Lists g P b (i + 1) := by
  intro m hm hpm
  by_cases e : m = i
  · rw [e, hp] at hpm; cases hpm
  · exact hL m (by omega) hpm
def J167 (j : Nat) : Prop := j = 23 ∨ j = 25 ∨ j = 26 ∨ j = 28
end GATHER
