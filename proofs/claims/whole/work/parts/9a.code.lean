/-! CODES: a number for each node that can be made, whatever store holds it. -/
def pr (a b : Nat) : Nat := 2 ^ a * (2 * b + 1)
theorem pr_0 (b : Nat) : pr 0 b = 2 * b + 1 := by unfold pr; omega
theorem pr_s (a b : Nat) : pr (a + 1) b = 2 * pr a b := by
  unfold pr
  rw [Nat.pow_succ, Nat.mul_comm (2 ^ a) 2, Nat.mul_assoc]
theorem pr_pos (a b : Nat) : 0 < pr a b := by
  induction a with
  | zero => rw [pr_0]; omega
  | succ a ih => rw [pr_s]; omega
theorem pr_inj {a b a' b' : Nat} (h : pr a b = pr a' b') : a = a' ∧ b = b' := by
  induction a generalizing a' with
  | zero =>
    cases a' with
    | zero => rw [pr_0, pr_0] at h; omega
    | succ a' => rw [pr_0, pr_s] at h; omega
  | succ a ih =>
    cases a' with
    | zero => rw [pr_0, pr_s] at h; omega
    | succ a' =>
      rw [pr_s, pr_s] at h
      have := ih (a' := a') (by omega)
      omega
def p1F : Nat → Nat → Nat
  | 0, _ => 0
  | f + 1, c => if c = 0 then 0 else if c % 2 = 1 then 0 else p1F f (c / 2) + 1
def p2F : Nat → Nat → Nat
  | 0, _ => 0
  | f + 1, c => if c = 0 then 0 else if c % 2 = 1 then c / 2 else p2F f (c / 2)
def p1 (c : Nat) : Nat := p1F (c + 1) c
def p2 (c : Nat) : Nat := p2F (c + 1) c
theorem p1F_pr {b : Nat} : ∀ (a f : Nat), a < f → p1F f (pr a b) = a := by
  intro a
  induction a with
  | zero =>
    intro f hf
    obtain ⟨f, rfl⟩ : ∃ q, f = q + 1 := ⟨f - 1, by omega⟩
    rw [p1F, pr_0, if_neg (by omega), if_pos (by omega)]
  | succ a ih =>
    intro f hf
    obtain ⟨f, rfl⟩ : ∃ q, f = q + 1 := ⟨f - 1, by omega⟩
    have hp := pr_pos a b
    rw [p1F, pr_s, if_neg (by omega), if_neg (by omega), show 2 * pr a b / 2 = pr a b by omega, ih f (by omega)]
theorem p2F_pr {b : Nat} : ∀ (a f : Nat), a < f → p2F f (pr a b) = b := by
  intro a
  induction a with
  | zero =>
    intro f hf
    obtain ⟨f, rfl⟩ : ∃ q, f = q + 1 := ⟨f - 1, by omega⟩
    rw [p2F, pr_0, if_neg (by omega), if_pos (by omega)]
    omega
  | succ a ih =>
    intro f hf
    obtain ⟨f, rfl⟩ : ∃ q, f = q + 1 := ⟨f - 1, by omega⟩
    have hp := pr_pos a b
    rw [p2F, pr_s, if_neg (by omega), if_neg (by omega), show 2 * pr a b / 2 = pr a b by omega, ih f (by omega)]
theorem pr_big (a b : Nat) : a < pr a b ∧ b < pr a b := by
  induction a with
  | zero => rw [pr_0]; omega
  | succ a ih => rw [pr_s]; omega
theorem p1_pr (a b : Nat) : p1 (pr a b) = a := p1F_pr a _ (by have := pr_big a b; omega)
theorem p2_pr (a b : Nat) : p2 (pr a b) = b := p2F_pr a _ (by have := pr_big a b; omega)
theorem pr_all (c : Nat) (h : 0 < c) : c = pr (p1 c) (p2 c) := by
  have key : ∀ c, 0 < c → ∃ a b, c = pr a b := by
    intro c
    induction c using Nat.strongRecOn with
    | ind c ih =>
      intro h
      by_cases ho : c % 2 = 1
      · exact ⟨0, c / 2, by rw [pr_0]; omega⟩
      · obtain ⟨a, b, e⟩ := ih (c / 2) (by omega) (by omega)
        exact ⟨a + 1, b, by rw [pr_s, ← e]; omega⟩
  obtain ⟨a, b, e⟩ := key c h
  rw [e, p1_pr, p2_pr]
theorem p1_0 : p1 0 = 0 := rfl
theorem p2_0 : p2 0 = 0 := rfl
theorem p_lt {c : Nat} (h : 0 < c) : p1 c < c ∧ p2 c < c := by
  have e := pr_all c h
  have b := pr_big (p1 c) (p2 c)
  rw [← e] at b
  exact b
theorem p_le (c : Nat) : p1 c ≤ c ∧ p2 c ≤ c := by
  by_cases h : 0 < c
  · have := p_lt h; omega
  · have e : c = 0 := by omega
    subst e
    exact ⟨Nat.le_refl 0, Nat.le_refl 0⟩
theorem kd_pos {c : Nat} (h : ¬ p1 c = 0) : 0 < c := by
  by_cases q : 0 < c
  · exact q
  · have e : c = 0 := by omega
    subst e
    exact absurd p1_0 h
/-- parts of a code -/
abbrev q1 (c : Nat) : Nat := p1 (p2 c)
abbrev q2 (c : Nat) : Nat := p2 (p2 c)
abbrev q21 (c : Nat) : Nat := p1 (p2 (p2 c))
abbrev q22 (c : Nat) : Nat := p2 (p2 (p2 c))
theorem q_lt {c : Nat} (h : 0 < c) : p2 c < c ∧ q1 c < c ∧ q2 c < c ∧ q21 c < c ∧ q22 c < c := by
  have h1 := p_lt h
  have h2 := p_le (p2 c)
  have h3 := p_le (p2 (p2 c))
  exact ⟨h1.2, by show p1 (p2 c) < c; omega, by show p2 (p2 c) < c; omega, by show p1 (p2 (p2 c)) < c; omega, by show p2 (p2 (p2 c)) < c; omega⟩
abbrev cF : Nat := pr 0 0
abbrev cT : Nat := pr 1 0
abbrev cX : Nat := pr 2 0
abbrev cW (e : Nat) : Nat := pr 3 e
abbrev cU (e : Nat) : Nat := pr 4 e
/-- an application: function g, first part, second part's code and one (0: none) -/
abbrev cA (g a b : Nat) : Nat := pr 5 (pr a (pr b g))
abbrev cE (a b : Nat) : Nat := pr 6 (pr (min a b) (max a b))
abbrev cN (a : Nat) : Nat := pr 7 a
abbrev cB (a b : Nat) : Nat := pr 8 (pr (min a b) (max a b))
abbrev cC (c a b : Nat) : Nat := pr 9 (pr c (pr a b))
/-- what is made is the plainest -/
def mkE (a b : Nat) : Nat := if a = b then cT else cE a b
def mkN (a : Nat) : Nat := if a = cT then cF else if a = cF then cT else if p1 a = 7 then p2 a else cN a
def mkB (a b : Nat) : Nat := if a = cF then cF else if b = cF then cF else if a = cT then b else if b = cT then a else if a = b then a else cB a b
def mkC (c a b : Nat) : Nat := if c = cT then a else if c = cF then b else if a = b then a else cC c a b
/-- p is a part of c -/
def cPart (c p : Nat) : Prop := (p1 c = 5 ∧ (p = q1 c ∨ q21 c = p + 1)) ∨ ((p1 c = 6 ∨ p1 c = 8) ∧ (p = q1 c ∨ p = q2 c)) ∨ (p1 c = 7 ∧ p = p2 c) ∨ (p1 c = 9 ∧ (p = q1 c ∨ p = q21 c ∨ p = q22 c))
/-- the codes of which the roots are made -/
def Dp (R : Nat → Prop) (c : Nat) : Prop := ∀ D : Nat → Prop, (∀ r, R r → D r) → (∀ c p, D c → cPart c p → D p) → D c
theorem Dp_root {R : Nat → Prop} {c : Nat} (h : R c) : Dp R c := fun _ h1 _ => h1 c h
theorem Dp_part {R : Nat → Prop} {c p : Nat} (h : Dp R c) (hp : cPart c p) : Dp R p := fun D h1 h2 => h2 c p (h D h1 h2) hp
theorem cPart_lt {c p : Nat} (h : cPart c p) : p < c := by
  have h0 : 0 < c := by
    apply kd_pos
    intro e
    unfold cPart at h
    omega
  have := q_lt h0
  unfold cPart at h
  omega
/-- words and truths -/
def wcF : Nat → Nat → Bool
  | 0, _ => false
  | f + 1, c => if p1 c = 9 then wcF f (q21 c) else decide (p1 c = 3) || decide (p1 c = 5)
def wc (c : Nat) : Bool := wcF (c + 1) c
theorem wcF_any : ∀ (c f f' : Nat), c < f → c < f' → wcF f c = wcF f' c := by
  intro c
  induction c using Nat.strongRecOn with
  | ind c ih =>
    intro f f' h h'
    obtain ⟨f, rfl⟩ : ∃ q, f = q + 1 := ⟨f - 1, by omega⟩
    obtain ⟨f', rfl⟩ : ∃ q, f' = q + 1 := ⟨f' - 1, by omega⟩
    rw [wcF, wcF]
    by_cases k : p1 c = 9
    · have hq := q_lt (kd_pos (c := c) (by omega))
      rw [if_pos k, if_pos k, ih (q21 c) hq.2.2.2.1 f f' (by omega) (by omega)]
    · rw [if_neg k, if_neg k]
theorem wc_eq (c : Nat) : wc c = if p1 c = 9 then wc (q21 c) else decide (p1 c = 3) || decide (p1 c = 5) := by
  unfold wc
  rw [wcF]
  by_cases k : p1 c = 9
  · have hq := q_lt (kd_pos (c := c) (by omega))
    rw [if_pos k, if_pos k, wcF_any (q21 c) c (q21 c + 1) (by omega) (by omega)]
  · rw [if_neg k, if_neg k]
/-- the value of a code, the leaves' values being given: L of FETCH, elements and applications -/
def vF (L : Nat → Nat) : Nat → Nat → Nat
  | 0, _ => 0
  | f + 1, c => if p1 c = 0 then 0 else if p1 c = 1 then 1
    else if p1 c = 6 then (if vF L f (q1 c) = vF L f (q2 c) then 1 else 0)
    else if p1 c = 7 then 1 - vF L f (p2 c)
    else if p1 c = 8 then (if vF L f (q1 c) = 1 ∧ vF L f (q2 c) = 1 then 1 else 0)
    else if p1 c = 9 then (if vF L f (q1 c) = 1 then vF L f (q21 c) else vF L f (q22 c))
    else L c
def val (L : Nat → Nat) (c : Nat) : Nat := vF L (c + 1) c
theorem vF_any {L : Nat → Nat} : ∀ (c f f' : Nat), c < f → c < f' → vF L f c = vF L f' c := by
  intro c
  induction c using Nat.strongRecOn with
  | ind c ih =>
    intro f f' h h'
    obtain ⟨f, rfl⟩ : ∃ q, f = q + 1 := ⟨f - 1, by omega⟩
    obtain ⟨f', rfl⟩ : ∃ q, f' = q + 1 := ⟨f' - 1, by omega⟩
    by_cases h0 : p1 c = 0
    · rw [vF, vF, if_pos h0, if_pos h0]
    · obtain ⟨a, b, c', d, e⟩ := q_lt (kd_pos h0)
      rw [vF, vF, ih (p2 c) a f f' (by omega) (by omega), ih (q1 c) b f f' (by omega) (by omega), ih (q2 c) c' f f' (by omega) (by omega), ih (q21 c) d f f' (by omega) (by omega), ih (q22 c) e f f' (by omega) (by omega)]
theorem val_eq (L : Nat → Nat) (c : Nat) : val L c = if p1 c = 0 then 0 else if p1 c = 1 then 1
    else if p1 c = 6 then (if val L (q1 c) = val L (q2 c) then 1 else 0)
    else if p1 c = 7 then 1 - val L (p2 c)
    else if p1 c = 8 then (if val L (q1 c) = 1 ∧ val L (q2 c) = 1 then 1 else 0)
    else if p1 c = 9 then (if val L (q1 c) = 1 then val L (q21 c) else val L (q22 c))
    else L c := by
  by_cases h0 : p1 c = 0
  · unfold val; rw [vF, if_pos h0, if_pos h0]
  · obtain ⟨a, b, c', d, e⟩ := q_lt (kd_pos h0)
    unfold val
    rw [vF, vF_any (p2 c) c (p2 c + 1) a (by omega), vF_any (q1 c) c (q1 c + 1) b (by omega), vF_any (q2 c) c (q2 c + 1) c' (by omega), vF_any (q21 c) c (q21 c + 1) d (by omega), vF_any (q22 c) c (q22 c + 1) e (by omega)]
theorem val_F (L : Nat → Nat) : val L cF = 0 := by rw [val_eq, p1_pr, if_pos rfl]
theorem val_T (L : Nat → Nat) : val L cT = 1 := by rw [val_eq, p1_pr, if_neg (by decide), if_pos rfl]
theorem val_leaf {L : Nat → Nat} {c : Nat} (h : 2 ≤ p1 c ∧ p1 c ≤ 5) : val L c = L c := by
  rw [val_eq, if_neg (by omega), if_neg (by omega), if_neg (by omega), if_neg (by omega), if_neg (by omega), if_neg (by omega)]
theorem val_E (L : Nat → Nat) (a b : Nat) : val L (cE a b) = if val L a = val L b then 1 else 0 := by
  rw [val_eq, p1_pr, if_neg (by decide), if_neg (by decide), if_pos rfl]
  show (if val L (p1 (p2 (pr 6 (pr (min a b) (max a b))))) = val L (p2 (p2 (pr 6 (pr (min a b) (max a b))))) then 1 else 0) = _
  rw [p2_pr, p1_pr, p2_pr]
  rcases Nat.le_total a b with q | q
  · rw [Nat.min_eq_left q, Nat.max_eq_right q]
  · rw [Nat.min_eq_right q, Nat.max_eq_left q]
    by_cases e : val L a = val L b
    · rw [if_pos e, if_pos e.symm]
    · rw [if_neg e, if_neg (fun z => e z.symm)]
theorem val_N (L : Nat → Nat) (a : Nat) : val L (cN a) = 1 - val L a := by
  rw [val_eq, p1_pr, if_neg (by decide), if_neg (by decide), if_neg (by decide), if_pos rfl, p2_pr]
theorem val_B (L : Nat → Nat) (a b : Nat) : val L (cB a b) = if val L a = 1 ∧ val L b = 1 then 1 else 0 := by
  rw [val_eq, p1_pr, if_neg (by decide), if_neg (by decide), if_neg (by decide), if_neg (by decide), if_pos rfl]
  show (if val L (p1 (p2 (pr 8 (pr (min a b) (max a b))))) = 1 ∧ val L (p2 (p2 (pr 8 (pr (min a b) (max a b))))) = 1 then 1 else 0) = _
  rw [p2_pr, p1_pr, p2_pr]
  rcases Nat.le_total a b with q | q
  · rw [Nat.min_eq_left q, Nat.max_eq_right q]
  · rw [Nat.min_eq_right q, Nat.max_eq_left q]
    by_cases e : val L a = 1 ∧ val L b = 1
    · rw [if_pos e, if_pos ⟨e.2, e.1⟩]
    · rw [if_neg e, if_neg (fun z => e ⟨z.2, z.1⟩)]
theorem val_C (L : Nat → Nat) (c a b : Nat) : val L (cC c a b) = if val L c = 1 then val L a else val L b := by
  rw [val_eq, p1_pr, if_neg (by decide), if_neg (by decide), if_neg (by decide), if_neg (by decide), if_neg (by decide), if_pos rfl]
  show (if val L (p1 (p2 (pr 9 (pr c (pr a b))))) = 1 then val L (p1 (p2 (p2 (pr 9 (pr c (pr a b)))))) else val L (p2 (p2 (p2 (pr 9 (pr c (pr a b))))))) = _
  rw [p2_pr, p1_pr, p2_pr, p1_pr, p2_pr]
section VALK
variable {L : Nat → Nat} {c : Nat}
theorem val_k0 (h : p1 c = 0) : val L c = 0 := by rw [val_eq, if_pos h]
theorem val_k1 (h : p1 c = 1) : val L c = 1 := by rw [val_eq, h]; rfl
theorem val_k6 (h : p1 c = 6) : val L c = if val L (q1 c) = val L (q2 c) then 1 else 0 := by rw [val_eq, h]; rfl
theorem val_k7 (h : p1 c = 7) : val L c = 1 - val L (p2 c) := by rw [val_eq, h]; rfl
theorem val_k8 (h : p1 c = 8) : val L c = if val L (q1 c) = 1 ∧ val L (q2 c) = 1 then 1 else 0 := by rw [val_eq, h]; rfl
theorem val_k9 (h : p1 c = 9) : val L c = if val L (q1 c) = 1 then val L (q21 c) else val L (q22 c) := by rw [val_eq, h]; rfl
end VALK
