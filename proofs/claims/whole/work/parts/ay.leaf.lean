/-! LEAVES: what lies at the bottom of a code -/
def nL (L : Nat → Prop) (c : Nat) : Prop := ∃ Z : Nat → Prop, Clo Z ∧ Z c ∧ ∀ x, Z x → 2 ≤ p1 x → p1 x ≤ 5 → L x
section NL
variable {L : Nat → Prop} {a b c : Nat}
theorem nL_part {p : Nat} (h : nL L c) (hp : cPart c p) : nL L p := by
  obtain ⟨Z, z1, z2, z3⟩ := h
  exact ⟨Z, z1, z1 c p z2 hp, z3⟩
theorem nL_leaf (h : nL L c) (h2 : 2 ≤ p1 c) (h5 : p1 c ≤ 5) : L c := by
  obtain ⟨Z, z1, z2, z3⟩ := h
  exact z3 c z2 h2 h5
theorem nL_mk (h : 2 ≤ p1 c → p1 c ≤ 5 → L c) (hp : ∀ p, cPart c p → nL L p) : nL L c := by
  refine ⟨fun x => x = c ∨ nL L x, ?_, Or.inl rfl, ?_⟩
  · rintro x p (rfl | hx) hxp
    · exact Or.inr (hp p hxp)
    · exact Or.inr (nL_part hx hxp)
  · rintro x (rfl | hx) h2 h5
    · exact h h2 h5
    · exact nL_leaf hx h2 h5
theorem nL_Clo {D : Nat → Prop} (hD : Clo D) (hc : D c) (hl : ∀ x, D x → 2 ≤ p1 x → p1 x ≤ 5 → L x) : nL L c := ⟨D, hD, hc, hl⟩
theorem nL_Dp {R : Nat → Prop} (h : ∀ c, R c → nL L c) (hc : Dp R c) : nL L c := hc (nL L) h (fun _ _ hc hp => nL_part hc hp)
theorem nL_low {k x : Nat} (hk : k < 2) : nL L (pr k x) := nL_mk (fun h _ => by rw [p1_pr] at h; omega) (fun p hp => absurd hp (part_leaf (by rw [p1_pr]; omega)))
theorem nL_E (ha : nL L a) (hb : nL L b) : nL L (mkE a b) := by
  unfold mkE
  by_cases h : a = b
  · rw [if_pos h]; exact nL_low (by decide)
  · rw [if_neg h]
    refine nL_mk (fun _ h5 => by rw [p1_pr] at h5; omega) (fun p hp => ?_)
    rcases part_E.mp hp with q | q <;> rw [q] <;> assumption
theorem nL_N (ha : nL L a) : nL L (mkN a) := by
  unfold mkN
  by_cases h1 : a = cT
  · rw [if_pos h1]; exact nL_low (by decide)
  rw [if_neg h1]
  by_cases h2 : a = cF
  · rw [if_pos h2]; exact nL_low (by decide)
  rw [if_neg h2]
  by_cases h7 : p1 a = 7
  · rw [if_pos h7]; exact nL_part ha (Or.inr (Or.inr (Or.inl ⟨h7, rfl⟩)))
  · rw [if_neg h7]
    refine nL_mk (fun _ h5 => by rw [p1_pr] at h5; omega) (fun p hp => ?_)
    rw [part_N.mp hp]; exact ha
theorem nL_B (ha : nL L a) (hb : nL L b) : nL L (mkB a b) := by
  unfold mkB
  by_cases h1 : a = cF
  · rw [if_pos h1]; exact nL_low (by decide)
  rw [if_neg h1]
  by_cases h2 : b = cF
  · rw [if_pos h2]; exact nL_low (by decide)
  rw [if_neg h2]
  by_cases h3 : a = cT
  · rw [if_pos h3]; exact hb
  rw [if_neg h3]
  by_cases h4 : b = cT
  · rw [if_pos h4]; exact ha
  rw [if_neg h4]
  by_cases h5 : a = b
  · rw [if_pos h5]; exact ha
  · rw [if_neg h5]
    refine nL_mk (fun _ h5 => by rw [p1_pr] at h5; omega) (fun p hp => ?_)
    rcases part_B.mp hp with q | q <;> rw [q] <;> assumption
theorem nL_C (hc : nL L c) (ha : nL L a) (hb : nL L b) : nL L (mkC c a b) := by
  unfold mkC
  by_cases h1 : c = cT
  · rw [if_pos h1]; exact ha
  rw [if_neg h1]
  by_cases h2 : c = cF
  · rw [if_pos h2]; exact hb
  rw [if_neg h2]
  by_cases h3 : a = b
  · rw [if_pos h3]; exact ha
  · rw [if_neg h3]
    refine nL_mk (fun _ h5 => by rw [p1_pr] at h5; omega) (fun p hp => ?_)
    rcases part_C.mp hp with q | q | q <;> rw [q] <;> assumption
theorem nL_A {g : Nat} (hL : L (cA g a b)) (ha : nL L a) (hb : ∀ y, b = y + 1 → nL L y) : nL L (cA g a b) := by
  refine nL_mk (fun _ _ => hL) (fun p hp => ?_)
  rcases part_A.mp hp with q | q
  · rw [q]; exact ha
  · exact hb p q
theorem nL_dfc (ha : nL L a) (hb : nL L b) : nL L (dfc a b) := by
  unfold dfc
  by_cases h : a = b
  · rw [if_pos h]; exact nL_low (by decide)
  rw [if_neg h]
  by_cases hw : wc a = true
  · rw [if_pos hw]; exact nL_N (nL_E ha hb)
  · rw [if_neg hw]; exact nL_C ha (nL_N hb) hb
end NL
section NLS
variable {κ α β γ : Nat → Int32} {E N : Nat} {st : Nat → Nat} {fc : Nat} {L : Nat → Prop}
/-- no FETCH in the node: none in its code -/
theorem nL_cd (hS : Store κ α β γ E N) (hN : N < 2 ^ 31) (hE : E ≤ 16) : ∀ m, m < N → hf κ α β γ m = false → nL (fun x => ¬ x = cX) (cd κ α β γ m) := by
  intro m
  induction m using Nat.strongRecOn with
  | ind m ih =>
    intro hm hf0
    refine nL_mk (fun _ _ e => ?_) (fun p hp => ?_)
    · have h3 := hS.1
      rw [← (cd_0 hS hN hE).2.2] at e
      have := cd_inj hS hN hE m 2 hm (by omega) e
      subst this
      have : hf κ α β γ 2 = true := (hf_iff hS.2.1 hN hm).mpr (Or.inl ((k2_2 hS hm).mpr rfl))
      rw [hf0] at this
      cases this
    · obtain ⟨q, hq, hpt, e⟩ := (cd_part hS.2.1 hN hE hm).mp hp
      rw [← e]
      refine ih q hq (by omega) ?_
      cases z : hf κ α β γ q with
      | false => rfl
      | true =>
        have : hf κ α β γ m = true := (hf_iff hS.2.1 hN hm).mpr (Or.inr ⟨q, hq, hpt, z⟩)
        rw [hf0] at this
        cases this
/-- what a step makes has the leaves of what it is made of -/
theorem nL_sb (hS : ∀ n, n < N → rowOk κ α β γ E n) (hN : N < 2 ^ 31) (hE : E ≤ 16) (hA : ∀ g a b, L (cA g a b)) (hst : ∀ e, e < E → nL L (st e)) (hfc : nL L fc) : ∀ m, m < N → nL L (sb κ α β γ st fc m) := by
  intro m
  induction m using Nat.strongRecOn with
  | ind m ih =>
    intro hm
    rcases cd_row hS hN hE hm with ⟨h0, k, -, -⟩ | ⟨h0, a, ha, k, ea, -⟩ | ⟨h0, a, ha, k, ea, -⟩ | ⟨_, x, g, hx, hg, k, ea, eb, eg, -, -⟩ | ⟨_, x, y, g, hx, hy, hg, k, ea, eb, eg, -, -, -⟩ | ⟨_, x, y, hxy, hy, k, ea, eb, -, -, -, -⟩ | ⟨_, x, h2, hx, k, ea, -, -, -, -, -⟩ | ⟨_, x, y, h2, hxy, hy, k, ea, eb, -, -, -, -⟩ | ⟨_, x, y, z, h2, hx, hy, hz, hne, k, ea, eb, eg, -, -, -⟩
    · by_cases z : m = 2
      · subst z
        rw [sb_2 k]; exact hfc
      · rw [sb_c (by omega) k]; exact nL_low (by omega)
    · rw [sb_e (by omega) (Or.inl k) ea]; exact hst a ha
    · rw [sb_e (by omega) (Or.inr k) ea]; exact hst a ha
    · rw [sb_5a hS hN hm hg hx k ea eb eg]
      exact nL_A (hA _ _ _) (ih x hx (by omega)) (fun y hy => by omega)
    · rw [sb_5b hS hN hm hg hx hy k ea eb eg]
      exact nL_A (hA _ _ _) (ih x hx (by omega)) (fun y' hy' => by
        have : y' = sb κ α β γ st fc y := by omega
        rw [this]; exact ih y hy (by omega))
    · rw [sb_6 hS hN hm (by omega) hy k ea eb]
      exact nL_E (ih x (by omega) (by omega)) (ih y hy (by omega))
    · rw [sb_7 hS hN hm hx k ea]
      exact nL_N (ih x hx (by omega))
    · rw [sb_8 hS hN hm (by omega) hy k ea eb]
      exact nL_B (ih x (by omega) (by omega)) (ih y hy (by omega))
    · rw [sb_9 hS hN hm hx hy hz k ea eb eg]
      exact nL_C (ih x hx (by omega)) (ih y hy (by omega)) (ih z hz (by omega))
end NLS
/-! VALUES OF WHAT IS MADE -/
section MKV
variable {s : Nat → Nat} {F : Nat → Nat → Nat → Nat} {a b c : Nat}
theorem ivl_F : ivl s F cF = 0 := ivl_k0 (p1_pr 0 0)
theorem ivl_T : ivl s F cT = 1 := ivl_k1 (p1_pr 1 0)
theorem ivl_mkE : ivl s F (mkE a b) = if ivl s F a = ivl s F b then 1 else 0 := by
  unfold mkE
  by_cases h : a = b
  · rw [if_pos h, ivl_T, if_pos (by rw [h])]
  · rw [if_neg h, ← val_ivl s F (cE a b), val_E, val_ivl, val_ivl]
theorem ivl_mkN (h : p1 a = 7 → ivl s F (p2 a) ≤ 1) : ivl s F (mkN a) = 1 - ivl s F a := by
  unfold mkN
  by_cases h1 : a = cT
  · rw [if_pos h1, h1, ivl_F, ivl_T]
  rw [if_neg h1]
  by_cases h2 : a = cF
  · rw [if_pos h2, h2, ivl_F, ivl_T]
  rw [if_neg h2]
  by_cases h7 : p1 a = 7
  · have := h h7
    rw [if_pos h7, ivl_k7 h7]
    omega
  · rw [if_neg h7, ← val_ivl s F (cN a), val_N, val_ivl]
theorem ivl_mkC : ivl s F (mkC c a b) = if ivl s F c = 1 then ivl s F a else ivl s F b := by
  unfold mkC
  by_cases h1 : c = cT
  · rw [if_pos h1, h1, ivl_T, if_pos rfl]
  rw [if_neg h1]
  by_cases h2 : c = cF
  · rw [if_pos h2, h2, ivl_F, if_neg (by decide)]
  rw [if_neg h2]
  by_cases h3 : a = b
  · rw [if_pos h3, h3]
    by_cases z : ivl s F c = 1
    · rw [if_pos z]
    · rw [if_neg z]
  · rw [if_neg h3, ← val_ivl s F (cC c a b), val_C, val_ivl, val_ivl, val_ivl]
/-- two that differ: the difference's node says so -/
theorem dfc_iff {D : Nat → Prop} (hD : Clo D) (hk : ∀ c, D c → okc c) (h01 : ∀ c, D c → wc c = false → ivl s F c ≤ 1) (ha : D a) (hb : D b) (hw : wc a = wc b) : ¬ ivl s F (dfc a b) = 0 ↔ ¬ ivl s F a = ivl s F b := by
  have n7 : ∀ x, D x → p1 x = 7 → ivl s F (p2 x) ≤ 1 := fun x hx h7 => h01 _ (clo7 hD hx h7) ((hk x hx).2.2.2.1 h7)
  unfold dfc
  by_cases h : a = b
  · rw [if_pos h, ivl_F, h]
    exact ⟨fun z => absurd rfl z, fun z => absurd rfl z⟩
  rw [if_neg h]
  by_cases w : wc a = true
  · have e6 : mkE a b = cE a b := by unfold mkE; rw [if_neg h]
    rw [if_pos w, ivl_mkN (fun z => by rw [e6, p1_pr] at z; omega), ivl_mkE]
    by_cases z : ivl s F a = ivl s F b
    · rw [if_pos z]; exact ⟨fun y => absurd rfl y, fun y => absurd z y⟩
    · rw [if_neg z]; exact ⟨fun _ => z, fun _ => by decide⟩
  · have wa : wc a = false := by
      cases q : wc a with
      | false => rfl
      | true => exact absurd q w
    have v1 := h01 a ha wa
    have v2 := h01 b hb (by rw [← hw]; exact wa)
    rw [if_neg w, ivl_mkC, ivl_mkN (n7 b hb)]
    by_cases z : ivl s F a = 1
    · rw [if_pos z]; omega
    · rw [if_neg z]; omega
end MKV
