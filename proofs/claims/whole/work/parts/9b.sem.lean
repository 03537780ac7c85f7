/-! MEANING: functions for applications, and what codes come to. -/
def iF (s : Nat → Nat) (F : Nat → Nat → Nat → Nat) : Nat → Nat → Nat
  | 0, _ => 0
  | f + 1, c => if p1 c = 0 then 0 else if p1 c = 1 then 1
    else if p1 c = 5 then F (q22 c) (iF s F f (q1 c)) (if q21 c = 0 then 0 else iF s F f (q21 c - 1) + 1)
    else if p1 c = 6 then (if iF s F f (q1 c) = iF s F f (q2 c) then 1 else 0)
    else if p1 c = 7 then 1 - iF s F f (p2 c)
    else if p1 c = 8 then (if iF s F f (q1 c) = 1 ∧ iF s F f (q2 c) = 1 then 1 else 0)
    else if p1 c = 9 then (if iF s F f (q1 c) = 1 then iF s F f (q21 c) else iF s F f (q22 c))
    else s c
/-- the value of a code: s of FETCH and elements, F the functions -/
def ivl (s : Nat → Nat) (F : Nat → Nat → Nat → Nat) (c : Nat) : Nat := iF s F (c + 1) c
theorem iF_any {s : Nat → Nat} {F : Nat → Nat → Nat → Nat} : ∀ (c f f' : Nat), c < f → c < f' → iF s F f c = iF s F f' c := by
  intro c
  induction c using Nat.strongRecOn with
  | ind c ih =>
    intro f f' h h'
    obtain ⟨f, rfl⟩ : ∃ q, f = q + 1 := ⟨f - 1, by omega⟩
    obtain ⟨f', rfl⟩ : ∃ q, f' = q + 1 := ⟨f' - 1, by omega⟩
    by_cases h0 : p1 c = 0
    · rw [iF, iF, if_pos h0, if_pos h0]
    · obtain ⟨a, b, c', d, e⟩ := q_lt (kd_pos h0)
      rw [iF, iF, ih (p2 c) a f f' (by omega) (by omega), ih (q1 c) b f f' (by omega) (by omega), ih (q2 c) c' f f' (by omega) (by omega), ih (q21 c) d f f' (by omega) (by omega), ih (q22 c) e f f' (by omega) (by omega), ih (q21 c - 1) (by omega) f f' (by omega) (by omega)]
theorem ivl_eq (s : Nat → Nat) (F : Nat → Nat → Nat → Nat) (c : Nat) : ivl s F c = if p1 c = 0 then 0 else if p1 c = 1 then 1
    else if p1 c = 5 then F (q22 c) (ivl s F (q1 c)) (if q21 c = 0 then 0 else ivl s F (q21 c - 1) + 1)
    else if p1 c = 6 then (if ivl s F (q1 c) = ivl s F (q2 c) then 1 else 0)
    else if p1 c = 7 then 1 - ivl s F (p2 c)
    else if p1 c = 8 then (if ivl s F (q1 c) = 1 ∧ ivl s F (q2 c) = 1 then 1 else 0)
    else if p1 c = 9 then (if ivl s F (q1 c) = 1 then ivl s F (q21 c) else ivl s F (q22 c))
    else s c := by
  by_cases h0 : p1 c = 0
  · unfold ivl; rw [iF, if_pos h0, if_pos h0]
  · obtain ⟨a, b, c', d, e⟩ := q_lt (kd_pos h0)
    unfold ivl
    rw [iF, iF_any (p2 c) c (p2 c + 1) a (by omega), iF_any (q1 c) c (q1 c + 1) b (by omega), iF_any (q2 c) c (q2 c + 1) c' (by omega), iF_any (q21 c) c (q21 c + 1) d (by omega), iF_any (q22 c) c (q22 c + 1) e (by omega), iF_any (q21 c - 1) c (q21 c - 1 + 1) (by omega) (by omega)]
section IVK
variable {s : Nat → Nat} {F : Nat → Nat → Nat → Nat} {c : Nat}
theorem ivl_app (h : p1 c = 5) : ivl s F c = F (q22 c) (ivl s F (q1 c)) (if q21 c = 0 then 0 else ivl s F (q21 c - 1) + 1) := by rw [ivl_eq, h]; rfl
theorem ivl_k0 (h : p1 c = 0) : ivl s F c = 0 := by rw [ivl_eq, h]; rfl
theorem ivl_k1 (h : p1 c = 1) : ivl s F c = 1 := by rw [ivl_eq, h]; rfl
theorem ivl_k6 (h : p1 c = 6) : ivl s F c = if ivl s F (q1 c) = ivl s F (q2 c) then 1 else 0 := by rw [ivl_eq, h]; rfl
theorem ivl_k7 (h : p1 c = 7) : ivl s F c = 1 - ivl s F (p2 c) := by rw [ivl_eq, h]; rfl
theorem ivl_k8 (h : p1 c = 8) : ivl s F c = if ivl s F (q1 c) = 1 ∧ ivl s F (q2 c) = 1 then 1 else 0 := by rw [ivl_eq, h]; rfl
theorem ivl_k9 (h : p1 c = 9) : ivl s F c = if ivl s F (q1 c) = 1 then ivl s F (q21 c) else ivl s F (q22 c) := by rw [ivl_eq, h]; rfl
theorem ivl_leaf (h : 2 ≤ p1 c ∧ p1 c ≤ 4) : ivl s F c = s c := by
  rw [ivl_eq]
  rcases (show p1 c = 2 ∨ p1 c = 3 ∨ p1 c = 4 by omega) with q | q | q <;> rw [q] <;> rfl
end IVK
/-- the values that the functions give are leaves' values -/
theorem val_ivl (s : Nat → Nat) (F : Nat → Nat → Nat → Nat) : ∀ c, val (ivl s F) c = ivl s F c := by
  intro c
  induction c using Nat.strongRecOn with
  | ind c ih =>
    by_cases h0 : p1 c = 0
    · rw [val_k0 h0, ivl_k0 h0]
    obtain ⟨a, b, c', d, e⟩ := q_lt (kd_pos h0)
    by_cases k1 : p1 c = 1
    · rw [val_k1 k1, ivl_k1 k1]
    by_cases k6 : p1 c = 6
    · rw [val_k6 k6, ivl_k6 k6, ih _ b, ih _ c']
    by_cases k7 : p1 c = 7
    · rw [val_k7 k7, ivl_k7 k7, ih _ a]
    by_cases k8 : p1 c = 8
    · rw [val_k8 k8, ivl_k8 k8, ih _ b, ih _ c']
    by_cases k9 : p1 c = 9
    · rw [val_k9 k9, ivl_k9 k9, ih _ b, ih _ d, ih _ e]
    rw [val_eq, if_neg h0, if_neg k1, if_neg k6, if_neg k7, if_neg k8, if_neg k9]
/-- the values of an application's second part, and one; 0 without -/
def arg2 (v : Nat → Nat) (c : Nat) : Nat := if q21 c = 0 then 0 else v (q21 c - 1) + 1
/-- applications in D of one function to the same are the same -/
def Fun (D : Nat → Prop) (L : Nat → Nat) : Prop := ∀ c d, D c → D d → p1 c = 5 → p1 d = 5 → q22 c = q22 d → val L (q1 c) = val L (q1 d) → arg2 (val L) c = arg2 (val L) d → L c = L d
/-- closed under parts -/
def Clo (D : Nat → Prop) : Prop := ∀ c p, D c → cPart c p → D p
theorem Clo_Dp (R : Nat → Prop) : Clo (Dp R) := fun _ _ h hp => Dp_part h hp
/-- a code of the right form -/
def okc (c : Nat) : Prop := p1 c ≤ 9 ∧ (p1 c = 5 → wc (q1 c) = true ∧ (q21 c = 0 ∨ wc (q21 c - 1) = true)) ∧ (p1 c = 6 → wc (q1 c) = true ∧ wc (q2 c) = true) ∧ (p1 c = 7 → wc (p2 c) = false) ∧ (p1 c = 8 → wc (q1 c) = false ∧ wc (q2 c) = false) ∧ (p1 c = 9 → wc (q1 c) = false ∧ wc (q21 c) = wc (q22 c))
section PARTS
variable {D : Nat → Prop} {c : Nat}
theorem clo5 (h : Clo D) (hc : D c) (k : p1 c = 5) : D (q1 c) ∧ (¬ q21 c = 0 → D (q21 c - 1)) :=
  ⟨h c _ hc (Or.inl ⟨k, Or.inl rfl⟩), fun q => h c _ hc (Or.inl ⟨k, Or.inr (by omega)⟩)⟩
theorem clo68 (h : Clo D) (hc : D c) (k : p1 c = 6 ∨ p1 c = 8) : D (q1 c) ∧ D (q2 c) :=
  ⟨h c _ hc (Or.inr (Or.inl ⟨k, Or.inl rfl⟩)), h c _ hc (Or.inr (Or.inl ⟨k, Or.inr rfl⟩))⟩
theorem clo7 (h : Clo D) (hc : D c) (k : p1 c = 7) : D (p2 c) := h c _ hc (Or.inr (Or.inr (Or.inl ⟨k, rfl⟩)))
theorem clo9 (h : Clo D) (hc : D c) (k : p1 c = 9) : D (q1 c) ∧ D (q21 c) ∧ D (q22 c) :=
  ⟨h c _ hc (Or.inr (Or.inr (Or.inr ⟨k, Or.inl rfl⟩))), h c _ hc (Or.inr (Or.inr (Or.inr ⟨k, Or.inr (Or.inl rfl)⟩))), h c _ hc (Or.inr (Or.inr (Or.inr ⟨k, Or.inr (Or.inr rfl)⟩)))⟩
end PARTS
/-- values of a closed set depend on its leaves alone -/
theorem val_congr {D : Nat → Prop} {L L' : Nat → Nat} (hD : Clo D) (hk : ∀ c, D c → p1 c ≤ 9) (h : ∀ c, D c → 2 ≤ p1 c → p1 c ≤ 5 → L' c = L c) : ∀ c, D c → val L' c = val L c := by
  intro c
  induction c using Nat.strongRecOn with
  | ind c ih =>
    intro hc
    have k9 := hk c hc
    by_cases h0 : p1 c = 0
    · rw [val_k0 h0, val_k0 h0]
    obtain ⟨a, b, c', d, e⟩ := q_lt (kd_pos h0)
    by_cases k6 : p1 c = 6
    · obtain ⟨d1, d2⟩ := clo68 hD hc (Or.inl k6)
      rw [val_k6 k6, val_k6 k6, ih _ b d1, ih _ c' d2]
    by_cases k7 : p1 c = 7
    · rw [val_k7 k7, val_k7 k7, ih _ a (clo7 hD hc k7)]
    by_cases k8 : p1 c = 8
    · obtain ⟨d1, d2⟩ := clo68 hD hc (Or.inr k8)
      rw [val_k8 k8, val_k8 k8, ih _ b d1, ih _ c' d2]
    by_cases k9' : p1 c = 9
    · obtain ⟨d1, d2, d3⟩ := clo9 hD hc k9'
      rw [val_k9 k9', val_k9 k9', ih _ b d1, ih _ d d2, ih _ e d3]
    by_cases k1 : p1 c = 1
    · rw [val_k1 k1, val_k1 k1]
    rw [val_leaf (c := c) ⟨by omega, by omega⟩, val_leaf (c := c) ⟨by omega, by omega⟩]
    exact h c hc (by omega) (by omega)
/-- leaves' values of a function's kind come of functions -/
theorem Fun_ivl {D : Nat → Prop} {L s : Nat → Nat} (hD : Clo D) (hk : ∀ c, D c → p1 c ≤ 9) (hF : Fun D L) (hs : ∀ c, D c → 2 ≤ p1 c → p1 c ≤ 4 → s c = L c) : ∃ F, ∀ c, D c → ivl s F c = val L c := by
  let P : Nat → Nat → Nat → Nat → Prop := fun g x y v => ∃ c, D c ∧ p1 c = 5 ∧ q22 c = g ∧ val L (q1 c) = x ∧ arg2 (val L) c = y ∧ v = L c
  refine ⟨fun g x y => Classical.epsilon (P g x y), ?_⟩
  have key : ∀ c, D c → p1 c = 5 → Classical.epsilon (P (q22 c) (val L (q1 c)) (arg2 (val L) c)) = L c := by
    intro c hc h5
    obtain ⟨d, hd, d5, e1, e2, e3, e4⟩ := Classical.epsilon_spec (p := P (q22 c) (val L (q1 c)) (arg2 (val L) c)) ⟨L c, c, hc, h5, rfl, rfl, rfl, rfl⟩
    rw [e4]
    exact hF d c hd hc d5 h5 e1 e2 e3
  intro c
  induction c using Nat.strongRecOn with
  | ind c ih =>
    intro hc
    have k9 := hk c hc
    by_cases h0 : p1 c = 0
    · rw [val_k0 h0, ivl_k0 h0]
    obtain ⟨a, b, c', d, e⟩ := q_lt (kd_pos h0)
    by_cases h5 : p1 c = 5
    · obtain ⟨d1, d2⟩ := clo5 hD hc h5
      have e2 : (if q21 c = 0 then 0 else ivl s (fun g x y => Classical.epsilon (P g x y)) (q21 c - 1) + 1) = arg2 (val L) c := by
        unfold arg2
        by_cases q : q21 c = 0
        · rw [if_pos q, if_pos q]
        · rw [if_neg q, if_neg q, ih (q21 c - 1) (by omega) (d2 q)]
      rw [ivl_app h5, e2, ih _ b d1, val_leaf (c := c) ⟨by omega, by omega⟩]
      exact key c hc h5
    by_cases k6 : p1 c = 6
    · obtain ⟨d1, d2⟩ := clo68 hD hc (Or.inl k6)
      rw [ivl_k6 k6, val_k6 k6, ih _ b d1, ih _ c' d2]
    by_cases k7 : p1 c = 7
    · rw [ivl_k7 k7, val_k7 k7, ih _ a (clo7 hD hc k7)]
    by_cases k8 : p1 c = 8
    · obtain ⟨d1, d2⟩ := clo68 hD hc (Or.inr k8)
      rw [ivl_k8 k8, val_k8 k8, ih _ b d1, ih _ c' d2]
    by_cases k9' : p1 c = 9
    · obtain ⟨d1, d2, d3⟩ := clo9 hD hc k9'
      rw [ivl_k9 k9', val_k9 k9', ih _ b d1, ih _ d d2, ih _ e d3]
    by_cases k1 : p1 c = 1
    · rw [val_k1 k1, ivl_k1 k1]
    rw [val_leaf (c := c) ⟨by omega, by omega⟩, ivl_leaf ⟨by omega, by omega⟩]
    exact hs c hc (by omega) (by omega)
/-- what functions give is a function's -/
theorem ivl_Fun (D : Nat → Prop) (s : Nat → Nat) (F : Nat → Nat → Nat → Nat) : Fun D (ivl s F) := by
  intro c d _ _ c5 d5 e1 e2 e3
  rw [ivl_app c5, ivl_app d5, e1]
  rw [val_ivl, val_ivl] at e2
  unfold arg2 at e3
  rw [val_ivl, val_ivl] at e3
  rw [e2, e3]
/-- other numbers for words: what is true stays true -/
theorem val_ren {D : Nat → Prop} {L L' ρ : Nat → Nat} (hD : Clo D) (hk : ∀ c, D c → okc c)
    (hw : ∀ c, D c → p1 c = 3 ∨ p1 c = 5 → L' c = ρ (L c)) (ht : ∀ c, D c → p1 c = 2 ∨ p1 c = 4 → L' c = L c)
    (hi : ∀ c d, D c → D d → p1 c = 3 ∨ p1 c = 5 → p1 d = 3 ∨ p1 d = 5 → ρ (L c) = ρ (L d) → L c = L d) :
    ∀ c, D c → (wc c = true → val L' c = ρ (val L c) ∧ ∃ d, D d ∧ (p1 d = 3 ∨ p1 d = 5) ∧ val L c = L d) ∧ (wc c = false → val L' c = val L c) := by
  intro c
  induction c using Nat.strongRecOn with
  | ind c ih =>
    intro hc
    obtain ⟨k9, ok5, ok6, ok7, ok8, ok9⟩ := hk c hc
    rw [wc_eq]
    by_cases h0 : p1 c = 0
    · rw [if_neg (by omega), decide_eq_false (by omega), decide_eq_false (by omega)]
      refine ⟨fun q => (by cases q), fun _ => ?_⟩
      rw [val_k0 h0, val_k0 h0]
    obtain ⟨a, b, c', d, e⟩ := q_lt (kd_pos h0)
    by_cases k35 : p1 c = 3 ∨ p1 c = 5
    · have hd : (decide (p1 c = 3) || decide (p1 c = 5)) = true := by
        rcases k35 with q | q
        · rw [decide_eq_true q]; rfl
        · rw [decide_eq_true q, Bool.or_true]
      rw [if_neg (by omega), hd]
      refine ⟨fun _ => ?_, fun q => (by cases q)⟩
      rw [val_leaf (c := c) ⟨by omega, by omega⟩, val_leaf (c := c) ⟨by omega, by omega⟩]
      exact ⟨hw c hc k35, c, hc, k35, rfl⟩
    by_cases k9' : p1 c = 9
    · rw [if_pos k9']
      obtain ⟨d1, d2, d3⟩ := clo9 hD hc k9'
      obtain ⟨o1, o2⟩ := ok9 k9'
      have i1 := (ih _ b d1).2 o1
      refine ⟨fun q => ?_, fun q => ?_⟩
      · rw [val_k9 k9', val_k9 k9', i1]
        by_cases z : val L (q1 c) = 1
        · rw [if_pos z, if_pos z]
          exact (ih _ d d2).1 q
        · rw [if_neg z, if_neg z]
          exact (ih _ e d3).1 (by rw [← o2]; exact q)
      · rw [val_k9 k9', val_k9 k9', i1]
        by_cases z : val L (q1 c) = 1
        · rw [if_pos z, if_pos z]
          exact (ih _ d d2).2 q
        · rw [if_neg z, if_neg z]
          exact (ih _ e d3).2 (by rw [← o2]; exact q)
    rw [if_neg k9', decide_eq_false (fun q => k35 (Or.inl q)), decide_eq_false (fun q => k35 (Or.inr q))]
    refine ⟨fun q => (by cases q), fun _ => ?_⟩
    by_cases k6 : p1 c = 6
    · obtain ⟨d1, d2⟩ := clo68 hD hc (Or.inl k6)
      obtain ⟨o1, o2⟩ := ok6 k6
      obtain ⟨x1, y1, hy1, ky1, z1⟩ := (ih _ b d1).1 o1
      obtain ⟨x2, y2, hy2, ky2, z2⟩ := (ih _ c' d2).1 o2
      rw [val_k6 k6, val_k6 k6, x1, x2]
      by_cases z : val L (q1 c) = val L (q2 c)
      · rw [if_pos z, if_pos (by rw [z])]
      · rw [if_neg z, if_neg]
        intro q
        apply z
        rw [z1, z2] at q
        rw [z1, z2]
        exact hi y1 y2 hy1 hy2 ky1 ky2 q
    by_cases k7 : p1 c = 7
    · have i1 := (ih _ a (clo7 hD hc k7)).2 (ok7 k7)
      rw [val_k7 k7, val_k7 k7, i1]
    by_cases k8 : p1 c = 8
    · obtain ⟨d1, d2⟩ := clo68 hD hc (Or.inr k8)
      obtain ⟨o1, o2⟩ := ok8 k8
      rw [val_k8 k8, val_k8 k8, (ih _ b d1).2 o1, (ih _ c' d2).2 o2]
    by_cases k1 : p1 c = 1
    · rw [val_k1 k1, val_k1 k1]
    rw [val_leaf (c := c) ⟨by omega, by omega⟩, val_leaf (c := c) ⟨by omega, by omega⟩]
    exact ht c hc (by omega)
/-- a function's leaves stay so under other numbers -/
theorem Fun_ren {D : Nat → Prop} {L L' ρ : Nat → Nat} (hD : Clo D) (hk : ∀ c, D c → okc c) (hF : Fun D L)
    (hw : ∀ c, D c → p1 c = 3 ∨ p1 c = 5 → L' c = ρ (L c)) (ht : ∀ c, D c → p1 c = 2 ∨ p1 c = 4 → L' c = L c)
    (hi : ∀ c d, D c → D d → p1 c = 3 ∨ p1 c = 5 → p1 d = 3 ∨ p1 d = 5 → ρ (L c) = ρ (L d) → L c = L d) : Fun D L' := by
  have hv := val_ren hD hk hw ht hi
  have inj : ∀ a b, D a → D b → wc a = true → wc b = true → val L' a = val L' b → val L a = val L b := by
    intro a b ha hb wa wb q
    obtain ⟨x1, y1, hy1, ky1, z1⟩ := (hv a ha).1 wa
    obtain ⟨x2, y2, hy2, ky2, z2⟩ := (hv b hb).1 wb
    rw [x1, x2, z1, z2] at q
    rw [z1, z2]
    exact hi y1 y2 hy1 hy2 ky1 ky2 q
  intro c d hc hd c5 d5 e1 e2 e3
  obtain ⟨ca, cb⟩ := clo5 hD hc c5
  obtain ⟨da, db⟩ := clo5 hD hd d5
  obtain ⟨oa, ob⟩ := (hk c hc).2.1 c5
  obtain ⟨pa, pb⟩ := (hk d hd).2.1 d5
  have ea : arg2 (val L) c = arg2 (val L) d := by
    unfold arg2 at e3 ⊢
    by_cases q : q21 c = 0
    · rw [if_pos q] at e3 ⊢
      by_cases q' : q21 d = 0
      · rw [if_pos q']
      · rw [if_neg q'] at e3; omega
    · rw [if_neg q] at e3 ⊢
      by_cases q' : q21 d = 0
      · rw [if_pos q'] at e3; omega
      · rw [if_neg q'] at e3 ⊢
        rw [inj _ _ (cb q) (db q') (ob.resolve_left q) (pb.resolve_left q') (by omega)]
  rw [hw c hc (Or.inr c5), hw d hd (Or.inr d5), hF c d hc hd c5 d5 e1 (inj _ _ ca da oa pa e2) ea]
