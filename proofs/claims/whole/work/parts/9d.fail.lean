/-! WHAT FAILS: states, functions and claims. -/
/-- truths are 0 or 1 -/
theorem val_01 {D : Nat → Prop} {L : Nat → Nat} (hD : Clo D) (hk : ∀ c, D c → okc c) (h : ∀ c, D c → p1 c = 2 ∨ p1 c = 4 → L c ≤ 1) : ∀ c, D c → wc c = false → val L c ≤ 1 := by
  intro c
  induction c using Nat.strongRecOn with
  | ind c ih =>
    intro hc hw
    obtain ⟨k9, ok5, ok6, ok7, ok8, ok9⟩ := hk c hc
    rw [wc_eq] at hw
    by_cases h0 : p1 c = 0
    · rw [val_k0 h0]; omega
    obtain ⟨a, b, c', d, e⟩ := q_lt (kd_pos h0)
    by_cases k6 : p1 c = 6
    · rw [val_k6 k6]
      by_cases z : val L (q1 c) = val L (q2 c)
      · rw [if_pos z]; omega
      · rw [if_neg z]; omega
    by_cases k7 : p1 c = 7
    · rw [val_k7 k7]; omega
    by_cases k8 : p1 c = 8
    · rw [val_k8 k8]
      by_cases z : val L (q1 c) = 1 ∧ val L (q2 c) = 1
      · rw [if_pos z]; omega
      · rw [if_neg z]; omega
    by_cases k9' : p1 c = 9
    · obtain ⟨d1, d2, d3⟩ := clo9 hD hc k9'
      obtain ⟨o1, o2⟩ := ok9 k9'
      rw [if_pos k9'] at hw
      rw [val_k9 k9']
      by_cases z : val L (q1 c) = 1
      · rw [if_pos z]; exact ih _ d d2 hw
      · rw [if_neg z]; exact ih _ e d3 (by rw [← o2]; exact hw)
    by_cases k1 : p1 c = 1
    · rw [val_k1 k1]; omega
    rw [if_neg k9'] at hw
    have n3 : ¬ p1 c = 3 := fun q => by rw [decide_eq_true q] at hw; cases hw
    have n5 : ¬ p1 c = 5 := fun q => by rw [decide_eq_true q, Bool.or_true] at hw; cases hw
    rw [val_leaf (c := c) ⟨by omega, by omega⟩]
    exact h c hc (by omega)
theorem ivl_01 {D : Nat → Prop} {s : Nat → Nat} {F : Nat → Nat → Nat → Nat} (hD : Clo D) (hk : ∀ c, D c → okc c) (h : ∀ c, D c → p1 c = 2 ∨ p1 c = 4 → s c ≤ 1) : ∀ c, D c → wc c = false → ivl s F c ≤ 1 := by
  intro c hc hw
  rw [← val_ivl]
  refine val_01 hD hk (fun c hc h' => ?_) c hc hw
  rw [ivl_leaf ⟨by omega, by omega⟩]
  exact h c hc h'
/-- all places count -/
abbrev tt1 : Nat → Bool := fun _ => true
/-- functions' values, as growth strings along all words of D -/
theorem ivl_grow {D : Nat → Prop} {s : Nat → Nat} (hD : Clo D) (hk : ∀ c, D c → okc c) {wl : Nat → Nat} {nW K : Nat} (hWK : nW ≤ K) (hwl : ∀ i, i < K → D (wl i) ∧ (p1 (wl i) = 3 ∨ p1 (wl i) = 5)) (hall : ∀ c, D c → p1 c = 3 ∨ p1 c = 5 → ∃ i, i < K ∧ wl i = c) (hW3 : ∀ i, i < nW → p1 (wl i) = 3) (hrg : rgP tt1 (fun i => s (wl i)) nW) (F : Nat → Nat → Nat → Nat) :
    ∃ L, Fun D L ∧ (∀ c, D c → p1 c = 2 ∨ p1 c = 4 → L c = s c) ∧ rgP tt1 (fun i => L (wl i)) K ∧ (∀ i, i < nW → L (wl i) = s (wl i)) ∧ (∀ c, D c → wc c = false → val L c = ivl s F c) ∧ (∀ c d, D c → D d → wc c = true → wc d = true → (val L c = val L d ↔ ivl s F c = ivl s F d)) := by
  obtain ⟨u, -, u1, u2⟩ := canonP tt1 (fun i => ivl s F (wl i)) K
  let ρ : Nat → Nat := fun v => Classical.epsilon (fun x => ∃ i, i < K ∧ ivl s F (wl i) = v ∧ x = u i)
  have hρ : ∀ i, i < K → ρ (ivl s F (wl i)) = u i := by
    intro i hi
    obtain ⟨j, hj, e1, e2⟩ := Classical.epsilon_spec (p := fun x => ∃ j, j < K ∧ ivl s F (wl j) = ivl s F (wl i) ∧ x = u j) ⟨u i, i, hi, rfl, rfl⟩
    show Classical.epsilon (fun x => ∃ j, j < K ∧ ivl s F (wl j) = ivl s F (wl i) ∧ x = u j) = u i
    rw [e2]
    exact (u2 j i hj hi rfl rfl).mpr e1
  let L : Nat → Nat := fun c => if p1 c = 3 ∨ p1 c = 5 then ρ (ivl s F c) else ivl s F c
  have hw : ∀ c, D c → p1 c = 3 ∨ p1 c = 5 → L c = ρ (ivl s F c) := fun c _ h => if_pos h
  have ht : ∀ c, D c → p1 c = 2 ∨ p1 c = 4 → L c = ivl s F c := fun c _ h => if_neg (by omega)
  have hi : ∀ c d, D c → D d → p1 c = 3 ∨ p1 c = 5 → p1 d = 3 ∨ p1 d = 5 → ρ (ivl s F c) = ρ (ivl s F d) → ivl s F c = ivl s F d := by
    intro c d hc hd kc kd e
    obtain ⟨i, hi, rfl⟩ := hall c hc kc
    obtain ⟨j, hj, rfl⟩ := hall d hd kd
    rw [hρ i hi, hρ j hj] at e
    exact (u2 i j hi hj rfl rfl).mp e
  have Lu : ∀ i, i < K → L (wl i) = u i := fun i hi => by rw [hw _ (hwl i hi).1 (hwl i hi).2, hρ i hi]
  have vr := val_ren hD hk hw ht hi
  refine ⟨L, Fun_ren hD hk (ivl_Fun D s F) hw ht hi, fun c hc h => ?_, fun i hi' hp => ?_, fun i hi' => ?_, fun c hc h => ?_, fun c d hc hd kc kd => ?_⟩
  · rw [ht c hc h, ivl_leaf ⟨by omega, by omega⟩]
  · show L (wl i) ≤ _
    rw [Lu i hi', mxP_congr (v := u) (fun j hj _ => Lu j (by omega))]
    exact u1 i hi' hp
  · rw [Lu i (by omega)]
    have hs : ∀ j, j < nW → ivl s F (wl j) = s (wl j) := fun j hj => ivl_leaf ⟨by rw [hW3 j hj]; decide, by rw [hW3 j hj]; decide⟩
    have := canon_fix u1 u2 hWK (fun j hj hp => by
      show ivl s F (wl j) ≤ _
      rw [hs j hj, mxP_congr (v := fun i => s (wl i)) (fun k hk' _ => hs k (by omega))]
      exact hrg j hj hp) i hi' rfl
    rw [this]
    exact hs i hi'
  · rw [(vr c hc).2 h, val_ivl]
  · obtain ⟨x1, y1, hy1, ky1, z1⟩ := (vr c hc).1 kc
    obtain ⟨x2, y2, hy2, ky2, z2⟩ := (vr d hd).1 kd
    rw [val_ivl] at x1 z1 x2 z2
    rw [x1, x2]
    constructor
    · intro q
      rw [z1, z2] at q ⊢
      exact hi y1 y2 hy1 hy2 ky1 ky2 q
    · intro q; rw [q]
/-- a state's values by code -/
def zs (s : Nat → Nat) (c : Nat) : Nat := if p1 c = 4 then s (p2 c) else if p1 c = 2 then s 16 else s (17 + p2 c)
/-- the code of a place -/
def zc (i : Nat) : Nat := if i < 16 then cU i else if i = 16 then cX else cW (i - 17)
theorem zs_zc {s : Nat → Nat} {i : Nat} : zs s (zc i) = s i := by
  unfold zs zc
  by_cases h : i < 16
  · rw [if_pos h, p1_pr, if_pos rfl, p2_pr]
  · rw [if_neg h]
    by_cases h' : i = 16
    · rw [if_pos h', p1_pr, if_neg (by decide), if_pos rfl, h']
    · rw [if_neg h', p1_pr, if_neg (by decide), if_neg (by decide), p2_pr]
      congr 1
      omega
/-- D's leaves have places -/
def pl (D : Nat → Prop) (P : Nat → Bool) : Prop := (∀ i, i < 33 → (P i = true ↔ D (zc i))) ∧ (∀ i, 33 ≤ i → P i = false) ∧ ∀ c, D c → 2 ≤ p1 c → p1 c ≤ 4 → ∃ i, i < 33 ∧ zc i = c
theorem zc_k {i : Nat} (h : i < 33) : (i < 17 → p1 (zc i) = 2 ∨ p1 (zc i) = 4) ∧ (17 ≤ i → p1 (zc i) = 3) := by
  unfold zc
  by_cases h1 : i < 16
  · rw [if_pos h1, p1_pr]; omega
  · rw [if_neg h1]
    by_cases h2 : i = 16
    · rw [if_pos h2, p1_pr]; omega
    · rw [if_neg h2, p1_pr]; omega
/-- what holds of truths of D for some functions holds as well in a state that is alike -/
theorem Q_in {D : Nat → Prop} {P : Nat → Bool} (hD : Clo D) (hk : ∀ c, D c → okc c) (hP : pl D P) {s s' : Nat → Nat} (h1 : ∀ i, i < 17 → P i = true → s' i = s i) (h2 : alike (wP P) s' s 33) (F : Nat → Nat → Nat → Nat) :
    ∃ F', (∀ c, D c → wc c = false → ivl (zs s') F' c = ivl (zs s) F c) ∧ ∀ c d, D c → D d → wc c = true → wc d = true → (ivl (zs s') F' c = ivl (zs s') F' d ↔ ivl (zs s) F c = ivl (zs s) F d) := by
  obtain ⟨p0, p1', p2'⟩ := hP
  let M := mxP tt1 s' 33
  let G : Nat → Nat → Prop := fun v x => ∃ i, i < 33 ∧ wP P i = true ∧ s i = v ∧ x = s' i
  let ρ : Nat → Nat := fun v => @ite Nat (∃ x, G v x) (Classical.propDecidable _) (Classical.epsilon (G v)) (v + M)
  have ρ1 : ∀ i, i < 33 → wP P i = true → ρ (s i) = s' i := by
    intro i hi hw
    have hex : ∃ x, G (s i) x := ⟨s' i, i, hi, hw, rfl, rfl⟩
    obtain ⟨j, hj, wj, e1, e2⟩ := Classical.epsilon_spec hex
    show @ite Nat (∃ x, G (s i) x) (Classical.propDecidable _) (Classical.epsilon (G (s i))) (s i + M) = s' i
    rw [if_pos hex, e2]
    exact (h2 j i hj hi wj hw).mpr e1
  have ρ2 : ∀ v, (∃ i, i < 33 ∧ wP P i = true ∧ s i = v ∧ ρ v = s' i) ∨ (ρ v = v + M ∧ ¬ ∃ i, i < 33 ∧ wP P i = true ∧ s i = v) := by
    intro v
    by_cases hex : ∃ i, i < 33 ∧ wP P i = true ∧ s i = v
    · obtain ⟨i, hi, hw, e⟩ := hex
      refine Or.inl ⟨i, hi, hw, e, ?_⟩
      rw [← e]; exact ρ1 i hi hw
    · refine Or.inr ⟨?_, hex⟩
      have : ¬ ∃ x, G v x := fun ⟨x, i, hi, hw, e, _⟩ => hex ⟨i, hi, hw, e⟩
      show @ite Nat (∃ x, G v x) (Classical.propDecidable _) (Classical.epsilon (G v)) (v + M) = v + M
      rw [if_neg this]
  have inj : ∀ v w, ρ v = ρ w → v = w := by
    intro v w e
    have lt : ∀ i, i < 33 → s' i < M := fun i hi => mxP_lt rfl hi
    rcases ρ2 v with ⟨i, hi, wi, ei, ri⟩ | ⟨rv, nv⟩ <;> rcases ρ2 w with ⟨j, hj, wj, ej, rj⟩ | ⟨rw', nw⟩
    · rw [ri, rj] at e
      rw [← ei, ← ej]
      exact (h2 i j hi hj wi wj).mp e
    · have := lt i hi; omega
    · have := lt j hj; omega
    · omega
  let L : Nat → Nat := fun c => if p1 c = 3 ∨ p1 c = 5 then ρ (ivl (zs s) F c) else ivl (zs s) F c
  have hw : ∀ c, D c → p1 c = 3 ∨ p1 c = 5 → L c = ρ (ivl (zs s) F c) := fun c _ h => if_pos h
  have ht : ∀ c, D c → p1 c = 2 ∨ p1 c = 4 → L c = ivl (zs s) F c := fun c _ h => if_neg (by omega)
  have hi : ∀ c d, D c → D d → p1 c = 3 ∨ p1 c = 5 → p1 d = 3 ∨ p1 d = 5 → ρ (ivl (zs s) F c) = ρ (ivl (zs s) F d) → ivl (zs s) F c = ivl (zs s) F d := fun c d _ _ _ _ e => inj _ _ e
  have hf := Fun_ren hD hk (ivl_Fun D (zs s) F) hw ht hi
  have vr := val_ren hD hk hw ht hi
  obtain ⟨F', hF'⟩ := Fun_ivl (s := zs s') hD (fun c hc => (hk c hc).1) hf (fun c hc k2 k4 => by
    obtain ⟨i, hi', rfl⟩ := p2' c hc k2 k4
    have hp := (p0 i hi').mpr hc
    obtain ⟨z1, z2⟩ := zc_k hi'
    rw [zs_zc]
    by_cases q : i < 17
    · rw [ht _ hc (z1 q), ivl_leaf ⟨k2, k4⟩, zs_zc]
      exact h1 i q hp
    · rw [hw _ hc (Or.inl (z2 (by omega))), ivl_leaf ⟨k2, k4⟩, zs_zc]
      exact (ρ1 i hi' (wP_iff.mpr ⟨by omega, hp⟩)).symm)
  refine ⟨F', fun c hc h => ?_, fun c d hc hd wc' wd' => ?_⟩
  · rw [hF' c hc, (vr c hc).2 h, val_ivl]
  · rw [hF' c hc, hF' d hd, ((vr c hc).1 wc').1, ((vr d hd).1 wd').1, val_ivl, val_ivl]
    exact ⟨fun q => inj _ _ q, fun q => by rw [q]⟩
