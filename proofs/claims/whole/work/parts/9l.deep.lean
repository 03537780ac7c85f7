/-! WHAT IS MARKED, BY CODE -/
section DEEP
variable {κ α β γ : Nat → Int32} {E N : Nat}
theorem mp_st {m q : Nat} {D : Nat → Int32} (hq : q < 2 ^ 31) : ¬ mpStep κ α β γ m D q = 0 ↔ ¬ D q = 0 ∨ (¬ D m = 0 ∧ isPt κ α β γ m q) := mpStep_iff hq (fun _ h1 h2 => clamp_nI h1 h2)
theorem mpStep_hi (hS : ∀ n, n < N → rowOk κ α β γ E n) (hN : N < 2 ^ 31) {m : Nat} (hm : m < N) {D : Nat → Int32} (h01 : ∀ q, D q = 0 ∨ D q = 1) {q : Nat} (hq : m ≤ q) (hq' : q < 2 ^ 31) : mpStep κ α β γ m D q = D q := by
  have h := mp_st (κ := κ) (α := α) (β := β) (γ := γ) (m := m) (D := D) hq'
  have no : ¬ isPt κ α β γ m q := fun hp => by have := part_lt (hS m hm) (by omega) hq' hp; omega
  have h1 := mpStep_01 (κ := κ) (α := α) (β := β) (γ := γ) (m := m) h01 q
  rcases h01 q with d | d
  · rw [d]
    rcases h1 with z | z
    · exact z
    · exact absurd (h.mp (by rw [z]; decide)) (fun w => w.elim (fun w => w d) (fun w => no w.2))
  · rw [d]
    rcases h1 with z | z
    · exact absurd z (h.mpr (Or.inl (by rw [d]; decide)))
    · exact z
theorem mpAll_hi (hS : ∀ n, n < N → rowOk κ α β γ E n) (hN : N < 2 ^ 31) : ∀ (m : Nat) (D : Nat → Int32), m ≤ N → (∀ q, D q = 0 ∨ D q = 1) → ∀ q, m ≤ q + 1 → q < 2 ^ 31 → mpAll κ α β γ m D q = D q := by
  intro m
  induction m with
  | zero => intro D _ _ q _ _; rfl
  | succ m ih =>
    intro D hm h01 q hq hq'
    unfold mpAll
    by_cases h2 : m ≤ 2
    · rw [if_pos h2]
    · rw [if_neg h2, ih _ (by omega) (mpStep_01 h01) q (by omega) hq', mpStep_hi hS hN (by omega) h01 (by omega) hq']
theorem mpAll_mono : ∀ (m : Nat) (D : Nat → Int32) (q : Nat), q < 2 ^ 31 → ¬ D q = 0 → ¬ mpAll κ α β γ m D q = 0 := by
  intro m
  induction m with
  | zero => intro D q _ h; exact h
  | succ m ih =>
    intro D q hq h
    unfold mpAll
    by_cases h2 : m ≤ 2
    · rw [if_pos h2]; exact h
    · rw [if_neg h2]; exact ih _ q hq ((mp_st hq).mpr (Or.inl h))
theorem low_noPt (hS : ∀ n, n < N → rowOk κ α β γ E n) {p q : Nat} (hp : p < N) (h3 : p ≤ 2) : ¬ isPt κ α β γ p q := by
  rintro ⟨hk, -⟩
  rcases hS p hp with ⟨_, z, _⟩ | ⟨z, _⟩
  · rw [z] at hk; exact hk (nI_le (b := 4) (by omega) (by decide))
  · omega
theorem mpAll_closed (hS : ∀ n, n < N → rowOk κ α β γ E n) (hN : N < 2 ^ 31) : ∀ (m : Nat) (D : Nat → Int32), m ≤ N → (∀ q, D q = 0 ∨ D q = 1) → ∀ p q, p < m → isPt κ α β γ p q → q < 2 ^ 31 → ¬ mpAll κ α β γ m D p = 0 → ¬ mpAll κ α β γ m D q = 0 := by
  intro m
  induction m with
  | zero => intro D _ _ p q hp; omega
  | succ m ih =>
    intro D hm h01 p q hp hpt hq h
    unfold mpAll at h ⊢
    by_cases h2 : m ≤ 2
    · exact absurd hpt (low_noPt hS (by omega) (by omega))
    · rw [if_neg h2] at h ⊢
      by_cases e : p = m
      · subst e
        rw [mpAll_hi hS hN p _ (by omega) (mpStep_01 h01) p (by omega) (by omega), mpStep_hi hS hN (by omega) h01 (Nat.le_refl p) (by omega)] at h
        exact mpAll_mono p _ q hq ((mp_st hq).mpr (Or.inr ⟨h, hpt⟩))
      · exact ih _ (by omega) (mpStep_01 h01) p q (by omega) hpt hq h
theorem mpAll_sound : ∀ (m : Nat) (D : Nat → Int32) (Z : Nat → Prop), (∀ q, q < 2 ^ 31 → ¬ D q = 0 → Z q) → (∀ p q, p < m → q < 2 ^ 31 → Z p → isPt κ α β γ p q → Z q) → m < 2 ^ 31 → ∀ q, q < 2 ^ 31 → ¬ mpAll κ α β γ m D q = 0 → Z q := by
  intro m
  induction m with
  | zero => intro D Z h1 _ _ q hq h; exact h1 q hq h
  | succ m ih =>
    intro D Z h1 h2 hm q hq h
    unfold mpAll at h
    by_cases z2 : m ≤ 2
    · rw [if_pos z2] at h; exact h1 q hq h
    · rw [if_neg z2] at h
      refine ih _ Z (fun q' hq' hd => ?_) (fun p q' hp hq' => h2 p q' (by omega) hq') (by omega) q hq h
      rcases (mp_st hq').mp hd with w | ⟨w, w'⟩
      · exact h1 q' hq' w
      · exact h2 m q' (by omega) hq' (h1 m (by omega) w) w'
/-- codes of marked nodes -/
def mkR (κ α β γ : Nat → Int32) (N : Nat) (D : Nat → Int32) (c : Nat) : Prop := ∃ m, m < N ∧ ¬ D m = 0 ∧ cd κ α β γ m = c
theorem mpAll_Dp (hS : Store κ α β γ E N) (hN : N < 2 ^ 31) (hE : E ≤ 16) {D : Nat → Int32} (h01 : ∀ q, D q = 0 ∨ D q = 1) {q : Nat} (hq : q < N) : ¬ mpAll κ α β γ N D q = 0 ↔ Dp (mkR κ α β γ N D) (cd κ α β γ q) := by
  constructor
  · intro h Z hZ hc
    have := mpAll_sound N D (fun p => p < N → Z (cd κ α β γ p)) (fun p hp hd hpN => hZ _ ⟨p, hpN, hd, rfl⟩) (fun p p' hp hp' hz hpt hpN' => hc _ _ (hz hp) ((cd_part hS.2.1 hN hE hp).mpr ⟨p', part_lt (hS.2.1 p hp) (by omega) hp' hpt, hpt, rfl⟩)) hN q (by omega) h
    exact this hq
  · intro h
    obtain ⟨m, hm, hd, e⟩ := h (fun c => ∃ m, m < N ∧ ¬ mpAll κ α β γ N D m = 0 ∧ cd κ α β γ m = c)
      (fun c hc => by obtain ⟨m, hm, hd, e⟩ := hc; exact ⟨m, hm, mpAll_mono N D m (by omega) hd, e⟩)
      (fun c p hc hp => by
        obtain ⟨m, hm, hd, e⟩ := hc
        rw [← e] at hp
        obtain ⟨p', hp', hpt, ep⟩ := (cd_part hS.2.1 hN hE hm).mp hp
        exact ⟨p', by omega, mpAll_closed hS.2.1 hN N D (Nat.le_refl N) h01 m p' hm hpt (by omega) hd, ep⟩)
    have := cd_inj hS hN hE m q hm hq e
    rw [← this]; exact hd
theorem mpAll_ge (hS : ∀ n, n < N → rowOk κ α β γ E n) (hN : N < 2 ^ 31) {D : Nat → Int32} (h01 : ∀ q, D q = 0 ∨ D q = 1) {q : Nat} (hq : N ≤ q + 1) (hq' : q < 2 ^ 31) : mpAll κ α β γ N D q = D q := mpAll_hi hS hN N D (Nat.le_refl N) h01 q hq hq'
/-- deep codes of a store's marks have nodes there -/
theorem Dp_node (hS : Store κ α β γ E N) (hN : N < 2 ^ 31) (hE : E ≤ 16) {R : Nat → Prop} (hR : ∀ c, R c → ∃ m, m < N ∧ cd κ α β γ m = c) {c : Nat} (h : Dp R c) : ∃ m, m < N ∧ cd κ α β γ m = c :=
  h (fun c => ∃ m, m < N ∧ cd κ α β γ m = c) hR (fun c p hc hp => by
    obtain ⟨m, hm, e⟩ := hc
    rw [← e] at hp
    obtain ⟨p', hp', _, ep⟩ := (cd_part hS.2.1 hN hE hm).mp hp
    exact ⟨p', by omega, ep⟩)
theorem Dp_mono {R R' : Nat → Prop} (h : ∀ c, R c → R' c) {c : Nat} (hc : Dp R c) : Dp R' c := fun D h1 h2 => hc D (fun r hr => h1 r (h r hr)) h2
end DEEP
/-! COUNTING -/
def cnt (P : Nat → Bool) : Nat → Nat
  | 0 => 0
  | n + 1 => cnt P n + (if P n = true then 1 else 0)
theorem cnt_s {P : Nat → Bool} (n : Nat) : cnt P (n + 1) = cnt P n + (if P n = true then 1 else 0) := rfl
theorem cnt_mono {P : Nat → Bool} {n m : Nat} (h : n ≤ m) : cnt P n ≤ cnt P m := by
  induction m with
  | zero => have : n = 0 := by omega
            subst this; exact Nat.le_refl _
  | succ m ih =>
    by_cases e : n = m + 1
    · subst e; exact Nat.le_refl _
    · have := ih (by omega)
      rw [cnt_s]; omega
theorem cnt_lt {P : Nat → Bool} {n m : Nat} (h : n < m) (hp : P n = true) : cnt P n < cnt P m := by
  have := cnt_mono (P := P) (show n + 1 ≤ m by omega)
  rw [cnt_s, if_pos hp] at this
  omega
theorem cnt_le_n {P : Nat → Bool} (n : Nat) : cnt P n ≤ n := by
  induction n with
  | zero => exact Nat.le_refl _
  | succ n ih =>
    rw [cnt_s]
    by_cases q : P n = true
    · rw [if_pos q]; omega
    · rw [if_neg q]; omega
theorem cnt_hit {P : Nat → Bool} {n k : Nat} (h : k < cnt P n) : ∃ m, m < n ∧ P m = true ∧ cnt P m = k := by
  induction n with
  | zero => have : cnt P 0 = 0 := rfl
            omega
  | succ n ih =>
    rw [cnt_s] at h
    by_cases q : k < cnt P n
    · obtain ⟨m, h1, h2⟩ := ih q
      exact ⟨m, by omega, h2⟩
    · by_cases p : P n = true
      · rw [if_pos p] at h
        exact ⟨n, by omega, p, by omega⟩
      · rw [if_neg p] at h; omega
theorem cnt_congr {P Q : Nat → Bool} {n : Nat} (h : ∀ m, m < n → P m = Q m) : cnt P n = cnt Q n := by
  induction n with
  | zero => rfl
  | succ n ih => rw [cnt_s, cnt_s, ih (fun m hm => h m (by omega)), h n (by omega)]
theorem cnt_rm {Q : Nat → Bool} {x : Nat} (hx : Q x = true) : ∀ {M : Nat}, x < M → cnt Q M = cnt (fun m => Q m && !decide (m = x)) M + 1 := by
  intro M
  induction M with
  | zero => intro h; omega
  | succ M ih =>
    intro h
    rw [cnt_s, cnt_s]
    by_cases e : x = M
    · subst e
      rw [if_pos hx, decide_eq_true rfl, Bool.not_true, Bool.and_false, if_neg (by decide)]
      have : cnt Q x = cnt (fun m => Q m && !decide (m = x)) x := cnt_congr (fun m hm => by rw [decide_eq_false (by omega), Bool.not_false, Bool.and_true])
      rw [this]
    · rw [ih (by omega), decide_eq_false (fun q => e q.symm), Bool.not_false, Bool.and_true]
      omega
theorem cnt_inj {P Q : Nat → Bool} {N M : Nat} (f : Nat → Nat) (hf : ∀ n, n < N → P n = true → f n < M ∧ Q (f n) = true) (hi : ∀ n m, n < N → m < N → P n = true → P m = true → f n = f m → n = m) : cnt P N ≤ cnt Q M := by
  induction N generalizing Q with
  | zero => exact Nat.zero_le _
  | succ N ih =>
    rw [cnt_s]
    by_cases p : P N = true
    · rw [if_pos p]
      obtain ⟨f1, f2⟩ := hf N (by omega) p
      rw [cnt_rm f2 f1]
      refine Nat.succ_le_succ (ih (fun n hn hp => ?_) (fun n m hn hm => hi n m (by omega) (by omega)))
      obtain ⟨g1, g2⟩ := hf n (by omega) hp
      refine ⟨g1, ?_⟩
      rw [g2, Bool.true_and, decide_eq_false]
      · rfl
      · intro e
        have := hi n N (by omega) (by omega) hp p e
        omega
    · rw [if_neg p]
      exact ih (fun n hn hp => hf n (by omega) hp) (fun n m hn hm => hi n m (by omega) (by omega))
