/-! NODES' VALUES IN A STATE -/
/-- node m's value: truths of state t, words numbered by u -/
noncomputable def nv (r : Nat) (V : qS) (K nt t : Nat) (u : Nat → Nat) (m : Nat) : Nat := val (LU r V K (tau r V nt t) u) (rCd V r m)
section NV
variable {r E A nw na nt t : Nat} {V : qS} {u : Nat → Nat}
theorem nv_lo (hE : E ≤ 16) (hX : Ext r V E A) : nv r V (nw + na) nt t u 0 = 0 ∧ nv r V (nw + na) nt t u 1 = 1 := by
  have hA := hX.2.1
  have c := cd_0 hX.2.2.1 (by omega) hE
  unfold nv
  rw [show rCd V r 0 = cF from c.1, show rCd V r 1 = cT from c.2.1, val_F, val_T]
  exact ⟨rfl, rfl⟩
theorem nv_w (hE : E ≤ 16) (hX : Ext r V E A) (hR : RL r A nw na nt V) {k m : Nat} (hk : k < nw + na) (em : V.1 r 26 k = nI m) (hm : m < A) : nv r V (nw + na) nt t u m = u k := by
  have hA := hX.2.1
  have t1 : tN (V.1 r 26 k) = m := by rw [em]; exact nI_clamp (by omega)
  obtain ⟨q1, q3, q5⟩ := LU_w (τ := tau r V nt t) (u := u) hE hX hR hk
  have ew : wlc r V k = rCd V r m := by unfold wlc; rw [t1]
  unfold nv
  rw [← ew, val_leaf, q1]
  by_cases z : k < nw
  · rw [q3 z]; omega
  · rw [q5 (by omega)]; omega
theorem nv_t (hE : E ≤ 16) (hX : Ext r V E A) (hR : RL r A nw na nt V) {k m : Nat} (hk : k < nt) (em : V.1 r 28 k = nI m) (hm : m < A) : nv r V (nw + na) nt t u m = bits nt t k := by
  have hA := hX.2.1
  have t1 : tN (V.1 r 28 k) = m := by rw [em]; exact nI_clamp (by omega)
  have ew : tlc r V k = rCd V r m := by unfold tlc; rw [t1]
  obtain ⟨m', hm', em', dm', hkd⟩ := hR.2.2.2.2.2.2.2.2.1 k hk
  have := (nI_eq (by omega) (by omega)).mp (em.symm.trans em')
  subst this
  have kk := cd_kind hX.2.2.1.2.1 (by omega) hE hm
  have hp : p1 (rCd V r m) = 4 ∨ p1 (rCd V r m) = 2 := by
    rcases hkd with k4 | ⟨m2, _⟩
    · left
      have b := kk.2.1
      have := kk.1
      rw [k4] at this
      exact ((nI_eq (a := 4) (b := p1 (rCd V r m)) (by decide) (by show p1 (cd _ _ _ _ m) < _; omega)).mp this).symm
    · right
      subst m2
      exact kk.2.2.1 (by omega)
  unfold nv
  rw [val_leaf (by omega)]
  unfold LU
  rw [if_neg (by omega), ← ew, tau_w hE hX hR hk]
  rfl
theorem nv_6 (hE : E ≤ 16) (hX : Ext r V E A) {m x y : Nat} (hm : m < A) (k6 : V.1 r 3 m = 6) (ex : V.1 r 4 m = nI x) (ey : V.1 r 5 m = nI y) (hx : x < A) (hy : y < A) {K : Nat} : nv r V K nt t u m = if nv r V K nt t u x = nv r V K nt t u y then 1 else 0 := by
  have hA := hX.2.1
  obtain ⟨_, x', y', h1, h2, _, e1, e2, _, _, _, ec⟩ := row_6 hX.2.2.1.2.1 (by omega) hE hm k6
  have q1 := (nI_eq (by omega) (by omega)).mp (ex.symm.trans e1)
  have q2 := (nI_eq (by omega) (by omega)).mp (ey.symm.trans e2)
  subst q1; subst q2
  unfold nv
  rw [show rCd V r m = _ from ec, val_E]
theorem nv_7 (hE : E ≤ 16) (hX : Ext r V E A) {m x : Nat} (hm : m < A) (k7 : V.1 r 3 m = 7) (ex : V.1 r 4 m = nI x) (hx : x < A) {K : Nat} : nv r V K nt t u m = 1 - nv r V K nt t u x := by
  have hA := hX.2.1
  obtain ⟨_, x', _, h1, _, e1, _, _, _, _, ec⟩ := row_7 hX.2.2.1.2.1 (by omega) hE hm k7
  have q1 := (nI_eq (by omega) (by omega)).mp (ex.symm.trans e1)
  subst q1
  unfold nv
  rw [show rCd V r m = _ from ec, val_N]
theorem nv_8 (hE : E ≤ 16) (hX : Ext r V E A) {m x y : Nat} (hm : m < A) (k8 : V.1 r 3 m = 8) (ex : V.1 r 4 m = nI x) (ey : V.1 r 5 m = nI y) (hx : x < A) (hy : y < A) {K : Nat} : nv r V K nt t u m = if nv r V K nt t u x = 1 ∧ nv r V K nt t u y = 1 then 1 else 0 := by
  have hA := hX.2.1
  obtain ⟨_, x', y', _, h1, h2, _, e1, e2, _, _, _, ec⟩ := row_8 hX.2.2.1.2.1 (by omega) hE hm k8
  have q1 := (nI_eq (by omega) (by omega)).mp (ex.symm.trans e1)
  have q2 := (nI_eq (by omega) (by omega)).mp (ey.symm.trans e2)
  subst q1; subst q2
  unfold nv
  rw [show rCd V r m = _ from ec, val_B]
theorem nv_9 (hE : E ≤ 16) (hX : Ext r V E A) {m x y z : Nat} (hm : m < A) (k9 : V.1 r 3 m = 9) (ex : V.1 r 4 m = nI x) (ey : V.1 r 5 m = nI y) (ez : V.1 r 6 m = nI z) (hx : x < A) (hy : y < A) (hz : z < A) {K : Nat} : nv r V K nt t u m = if nv r V K nt t u x = 1 then nv r V K nt t u y else nv r V K nt t u z := by
  have hA := hX.2.1
  obtain ⟨_, x', y', z', _, h1, h2, h3, _, _, e1, e2, e3, _, _, ec⟩ := row_9 hX.2.2.1.2.1 (by omega) hE hm k9
  have q1 := (nI_eq (by omega) (by omega)).mp (ex.symm.trans e1)
  have q2 := (nI_eq (by omega) (by omega)).mp (ey.symm.trans e2)
  have q3 := (nI_eq (by omega) (by omega)).mp (ez.symm.trans e3)
  subst q1; subst q2; subst q3
  unfold nv
  rw [show rCd V r m = _ from ec, val_C]
/-- truths are 0 or 1 -/
theorem nv_01 (hE : E ≤ 16) (hX : Ext r V E A) {K : Nat} (hu : ∀ i, i < K → u i ≤ 7) {m : Nat} (hm : m < A) (hw : wd (V.1 r 3) (V.1 r 5) m = false) : nv r V K nt t u m ≤ 1 := by
  have hA := hX.2.1
  have ok := hX.2.2.1.2.1
  refine val_01 (D := fun c => ∃ q, q < A ∧ rCd V r q = c) (fun c p ⟨q, hq, e⟩ hp => ?_) (fun c ⟨q, hq, e⟩ => by rw [← e]; exact cd_ok ok (by omega) hE hq) (fun c _ hk => (LU_LB hu (fun _ => tau_01)).2 c hk) _ ⟨m, hm, rfl⟩ (by rw [show wc (rCd V r m) = _ from cd_wc ok (by omega) hE m hm]; exact hw)
  rw [← e] at hp
  obtain ⟨m', hm', _, ec⟩ := (cd_part ok (by omega) hE hq).mp hp
  exact ⟨m', by omega, ec⟩
/-- words are below 8 -/
theorem nv_le {K : Nat} (hu : ∀ i, i < K → u i ≤ 7) {m : Nat} : nv r V K nt t u m ≤ 7 := by
  refine val_le (by omega) (fun c => ?_) _
  unfold LU
  by_cases z : p1 c = 3 ∨ p1 c = 5
  · rw [if_pos z]
    by_cases y : ixF r V K c < K
    · rw [if_pos y]; exact hu _ y
    · rw [if_neg y]; omega
  · rw [if_neg z]
    exact Nat.le_trans tau_01 (by omega)
end NV
/-- levels: how many words must have numbers before a node has its value -/
def Lam (r A nw na : Nat) (V : qS) (lam : Nat → Nat) : Prop :=
  (∀ m, m < 3 ∨ V.1 r 3 m = 4 → lam m = 0) ∧ (∀ m, m < A → dpN V r m → lam m ≤ nw + na) ∧ (∀ k m, k < nw + na → m < A → V.1 r 26 k = nI m → lam m = k + 1) ∧
  (∀ m q, m < A → q < A → dpN V r m → ¬ V.1 r 3 m ≤ 5 → isPt (V.1 r 3) (V.1 r 4) (V.1 r 5) (V.1 r 6) m q → lam q ≤ lam m) ∧
  (∀ k m q, k < nw + na → m < A → q < A → V.1 r 26 k = nI m → isPt (V.1 r 3) (V.1 r 4) (V.1 r 5) (V.1 r 6) m q → lam q ≤ k)
section NVC
variable {r E A nw na nt : Nat} {V : qS} {lam : Nat → Nat}
/-- the cases of a node -/
theorem node_cases (hE : E ≤ 16) (hX : Ext r V E A) {m : Nat} (hm : m < A) :
    (m < 2) ∨ (V.1 r 3 m = 2 ∨ V.1 r 3 m = 4) ∨ (V.1 r 3 m = 3 ∨ V.1 r 3 m = 5) ∨ (V.1 r 3 m = 6 ∧ ∃ x y, x < m ∧ y < m ∧ V.1 r 4 m = nI x ∧ V.1 r 5 m = nI y ∧ wd (V.1 r 3) (V.1 r 5) x = true ∧ wd (V.1 r 3) (V.1 r 5) y = true) ∨
    (V.1 r 3 m = 7 ∧ ∃ x, x < m ∧ V.1 r 4 m = nI x ∧ wd (V.1 r 3) (V.1 r 5) x = false) ∨ (V.1 r 3 m = 8 ∧ ∃ x y, x < m ∧ y < m ∧ V.1 r 4 m = nI x ∧ V.1 r 5 m = nI y ∧ wd (V.1 r 3) (V.1 r 5) x = false ∧ wd (V.1 r 3) (V.1 r 5) y = false) ∨
    (V.1 r 3 m = 9 ∧ ∃ x y z, x < m ∧ y < m ∧ z < m ∧ V.1 r 4 m = nI x ∧ V.1 r 5 m = nI y ∧ V.1 r 6 m = nI z ∧ wd (V.1 r 3) (V.1 r 5) x = false ∧ wd (V.1 r 3) (V.1 r 5) y = wd (V.1 r 3) (V.1 r 5) z) := by
  rcases hX.2.2.1.2.1 m hm with ⟨h0, z, _⟩ | ⟨_, z | z | z | z | z | z⟩
  · by_cases y : m < 2
    · exact Or.inl y
    · have : m = 2 := by omega
      subst this
      exact Or.inr (Or.inl (Or.inl z))
  · rcases z.1 with q | q
    · exact Or.inr (Or.inr (Or.inl (Or.inl q)))
    · exact Or.inr (Or.inl (Or.inr q))
  · exact Or.inr (Or.inr (Or.inl (Or.inr z.1)))
  · obtain ⟨k, ⟨x, y, hx, hy, e1, e2, w1, w2⟩, _⟩ := z
    exact Or.inr (Or.inr (Or.inr (Or.inl ⟨k, x, y, by omega, hy, e1, e2, w1, w2⟩)))
  · obtain ⟨k, ⟨x, _, hx, e1, _, w1⟩, _⟩ := z
    exact Or.inr (Or.inr (Or.inr (Or.inr (Or.inl ⟨k, x, hx, e1, w1⟩))))
  · obtain ⟨k, ⟨x, y, _, hx, hy, e1, e2, w1, w2⟩, _⟩ := z
    exact Or.inr (Or.inr (Or.inr (Or.inr (Or.inr (Or.inl ⟨k, x, y, by omega, hy, e1, e2, w1, w2⟩)))))
  · obtain ⟨k, x, y, z, _, hx, hy, hz, _, e1, e2, e3, w1, w2⟩ := z
    exact Or.inr (Or.inr (Or.inr (Or.inr (Or.inr (Or.inr ⟨k, x, y, z, hx, hy, hz, e1, e2, e3, w1, w2⟩)))))
/-- parts of the compound kinds -/
theorem pt_1 {m x : Nat} (hx : x < 2 ^ 31) (hk : ¬ V.1 r 3 m ≤ 4) (e : V.1 r 4 m = nI x) : isPt (V.1 r 3) (V.1 r 4) (V.1 r 5) (V.1 r 6) m x := by
  unfold isPt
  exact ⟨hk, Or.inl e⟩
theorem pt_2 {m x : Nat} (hx : x < 2 ^ 31) (hk : ¬ V.1 r 3 m ≤ 4) (e : V.1 r 5 m = nI x) : isPt (V.1 r 3) (V.1 r 4) (V.1 r 5) (V.1 r 6) m x := by
  unfold isPt
  exact ⟨hk, Or.inr (Or.inl e)⟩
theorem pt_3 {m x : Nat} (hx : x < 2 ^ 31) (hk : V.1 r 3 m = 9) (e : V.1 r 6 m = nI x) : isPt (V.1 r 3) (V.1 r 4) (V.1 r 5) (V.1 r 6) m x := by
  unfold isPt
  exact ⟨by rw [hk]; decide, Or.inr (Or.inr ⟨hk, e⟩)⟩
end NVC
