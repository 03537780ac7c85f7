/-! WHAT THE REFERENCE'S ANSWER MEANS -/
theorem cnt_tt (n : Nat) : cnt tt1 n = n := by
  induction n with
  | zero => rfl
  | succ n ih => rw [cnt_s, ih]; rfl
/-- a list in order counts -/
theorem cnt_enum {Q : Nat → Bool} {pos : Nat → Nat} {n N : Nat} (hQ : ∀ k, k < n → pos k < N ∧ Q (pos k) = true) (hm : ∀ k k', k < k' → k' < n → pos k < pos k') (ho : ∀ i, i < N → Q i = true → ∃ k, k < n ∧ pos k = i) : (∀ k, k < n → cnt Q (pos k) = k) ∧ cnt Q N = n := by
  have inj : ∀ k k', k < n → k' < n → pos k = pos k' → k = k' := fun k k' hk hk' e => by
    rcases Nat.lt_trichotomy k k' with q | q | q
    · have := hm k k' q hk'; omega
    · exact q
    · have := hm k' k q hk; omega
  have key : ∀ k b, k ≤ n → b ≤ N → (∀ j, j < k → pos j < b) → (∀ j, k ≤ j → j < n → b ≤ pos j) → cnt Q b = k := by
    intro k b hk hb h1 h2
    apply Nat.le_antisymm
    · have := cnt_inj (P := Q) (Q := tt1) (N := b) (M := k) (fun i => Classical.epsilon (fun j => j < n ∧ pos j = i)) (fun i hi hq => by
        obtain ⟨e1, e2⟩ := Classical.epsilon_spec (p := fun j => j < n ∧ pos j = i) (ho i (by omega) hq)
        refine ⟨?_, rfl⟩
        show Classical.epsilon (fun j => j < n ∧ pos j = i) < k
        generalize Classical.epsilon (fun j => j < n ∧ pos j = i) = j at e1 e2 ⊢
        apply Nat.lt_of_not_le
        intro hle
        have := h2 j hle e1
        omega) (fun i i' hi hi' hq hq' e => by
        have e1 := (Classical.epsilon_spec (p := fun j => j < n ∧ pos j = i) (ho i (by omega) hq)).2
        have e2 := (Classical.epsilon_spec (p := fun j => j < n ∧ pos j = i') (ho i' (by omega) hq')).2
        rw [← e1, ← e2]
        exact congrArg pos e)
      rw [cnt_tt] at this
      exact this
    · have := cnt_inj (P := tt1) (Q := Q) (N := k) (M := b) pos (fun j hj _ => ⟨h1 j hj, (hQ j (by omega)).2⟩) (fun j j' hj hj' _ _ e => inj j j' (by omega) (by omega) e)
      rw [cnt_tt] at this
      exact this
  refine ⟨fun k hk => key k (pos k) (by omega) (Nat.le_of_lt (hQ k hk).1) (fun j hj => hm j k hj hk) (fun j h1 h2 => ?_), key n N (Nat.le_refl n) (Nat.le_refl N) (fun j hj => (hQ j hj).1) (fun j h1 h2 => by omega)⟩
  by_cases z : j = k
  · rw [z]; exact Nat.le_refl _
  · exact Nat.le_of_lt (hm k j (by omega) h2)
/-- the places of a set of codes -/
noncomputable def PD (D : Nat → Prop) (i : Nat) : Bool := @decide (i < 33 ∧ D (zc i)) (Classical.propDecidable _)
theorem PD_iff {D : Nat → Prop} {i : Nat} : PD D i = true ↔ i < 33 ∧ D (zc i) := by
  unfold PD
  exact @decide_eq_true_iff _ (Classical.propDecidable _)
theorem zc_inj {i j : Nat} (hi : i < 33) (hj : j < 33) (h : zc i = zc j) : i = j := by
  unfold zc at h
  by_cases a : i < 16 <;> by_cases b : j < 16
  · rw [if_pos a, if_pos b] at h; exact (pr_inj h).2
  · rw [if_pos a, if_neg b] at h
    by_cases c : j = 16
    · rw [if_pos c] at h; exact absurd (pr_inj h).1 (by decide)
    · rw [if_neg c] at h; exact absurd (pr_inj h).1 (by decide)
  · rw [if_neg a, if_pos b] at h
    by_cases c : i = 16
    · rw [if_pos c] at h; exact absurd (pr_inj h).1 (by decide)
    · rw [if_neg c] at h; exact absurd (pr_inj h).1 (by decide)
  · rw [if_neg a, if_neg b] at h
    by_cases c : i = 16 <;> by_cases d : j = 16
    · omega
    · rw [if_pos c, if_neg d] at h; exact absurd (pr_inj h).1 (by decide)
    · rw [if_neg c, if_pos d] at h; exact absurd (pr_inj h).1 (by decide)
    · rw [if_neg c, if_neg d] at h
      have := (pr_inj h).2
      omega
theorem zc_U {e : Nat} (h : e < 16) : zc e = cU e := if_pos h
theorem zc_X : zc 16 = cX := by unfold zc; rw [if_neg (by decide), if_pos rfl]
theorem zc_W (e : Nat) : zc (17 + e) = cW e := by
  unfold zc
  rw [if_neg (by omega), if_neg (by omega), show 17 + e - 17 = e by omega]
/-- some claim fails in a state with some functions -/
def QF (I : Nat) (iv : Nat → Nat) (sn : Nat → Bool) (c1 c2 : Nat → Nat) (s : Nat → Nat) : Prop := ∃ e F, FailsV I iv sn c1 c2 (ivl (zs s) F) e
/-- elements' nodes come in the order of their numbers -/
def ElO (r A : Nat) (S0 : qS) : Prop := ∀ m m' e e', m < m' → m' < A → (S0.1 r 3 m = 3 ∨ S0.1 r 3 m = 4) → (S0.1 r 3 m' = 3 ∨ S0.1 r 3 m' = 4) → S0.1 r 4 m = nI e → S0.1 r 4 m' = nI e' → e < 16 → e' < 16 → e < e'
section RSEM
variable {r E A I nw na nt : Nat} {S0 : qS} {kv : Int32} {iv c1 c2 : Nat → Nat} {sn : Nat → Bool}
theorem DC_pl (hE : E ≤ 16) (hX : Ext r S0 E A) : pl (DC r A S0) (PD (DC r A S0)) := by
  have hA := hX.2.1
  refine ⟨fun i hi => ⟨fun q => (PD_iff.mp q).2, fun q => PD_iff.mpr ⟨hi, q⟩⟩, fun i hi => ?_, fun c hc k2 k4 => ?_⟩
  · cases q : PD (DC r A S0) i with
    | false => rfl
    | true => have := (PD_iff.mp q).1; omega
  · obtain ⟨m, hm, _, e⟩ := hc
    subst e
    rcases cd_row hX.2.2.1.2.1 (by omega) hE hm with ⟨h0, k, -, ec⟩ | ⟨h0, a, ha, k, ea, ec⟩ | ⟨h0, a, ha, k, ea, ec⟩ | ⟨_, _, _, _, _, _, _, _, _, _, ec⟩ | ⟨_, _, _, _, _, _, _, _, _, _, _, _, _, ec⟩ | ⟨_, _, _, _, _, _, _, _, _, _, _, ec⟩ | ⟨_, _, _, _, _, _, _, _, _, _, ec⟩ | ⟨_, _, _, _, _, _, _, _, _, _, _, _, ec⟩ | ⟨_, _, _, _, _, _, _, _, _, _, _, _, _, _, _, ec⟩
    · rw [show rCd S0 r m = _ from ec, p1_pr] at k2
      have : m = 2 := by omega
      subst this
      exact ⟨16, by omega, by rw [zc_X]; exact ec.symm⟩
    · exact ⟨17 + a, by omega, by rw [zc_W]; exact ec.symm⟩
    · exact ⟨a, by omega, by rw [zc_U (by omega)]; exact ec.symm⟩
    all_goals
      rw [show rCd S0 r m = _ from ec, p1_pr] at k4
      omega
/-- lists and places -/
theorem RL_pl (hE : E ≤ 16) (hX : Ext r S0 E A) (hR : RL r A nw na nt S0) (hO : ElO r A S0) :
    nt = cnt (tP (PD (DC r A S0))) 17 ∧ nw = cnt (wP (PD (DC r A S0))) 33 ∧ (∀ t i, tP (PD (DC r A S0)) i = true → tau r S0 nt t (zc i) = bits nt t (cnt (tP (PD (DC r A S0))) i)) ∧ (∀ i, wP (PD (DC r A S0)) i = true → ∃ k, k < nw ∧ wlc r S0 k = zc i ∧ cnt (wP (PD (DC r A S0))) i = k) ∧ (∀ k, k < nw → ∃ i, i < 33 ∧ wP (PD (DC r A S0)) i = true ∧ zc i = wlc r S0 k ∧ cnt (wP (PD (DC r A S0))) i = k) := by
  have hA := hX.2.1
  have rOk := hX.2.2.1.2.1
  have hR' := hR
  have hpl := DC_pl hE hX
  obtain ⟨r23, r24, r25, r7, r6, rW, rWa, rWo, rT, rTa, rTo, rWi⟩ := hR
  -- places of the listed codes
  have plW : ∀ k, k < nw → ∃ i m e, i < 33 ∧ 17 ≤ i ∧ zc i = wlc r S0 k ∧ DC r A S0 (zc i) ∧ m < A ∧ S0.1 r 26 k = nI m ∧ S0.1 r 3 m = 3 ∧ e < E ∧ S0.1 r 4 m = nI e ∧ i = 17 + e := by
    intro k hk
    obtain ⟨m, hm, em, dm, k3, _⟩ := rW k (by omega)
    obtain ⟨_, e, he, _, ea, ec⟩ := row_3 rOk (by omega) hE hm (k3 hk)
    have t1 : tN (S0.1 r 26 k) = m := by rw [em]; exact nI_clamp (by omega)
    refine ⟨17 + e, m, e, by omega, by omega, ?_, ⟨m, hm, dm, ?_⟩, hm, em, k3 hk, he, ea, rfl⟩
    · unfold wlc; rw [t1, zc_W]; exact ec.symm
    · rw [zc_W]; exact ec
  have plT : ∀ k, k < nt → ∃ i m, i < 17 ∧ zc i = tlc r S0 k ∧ DC r A S0 (zc i) ∧ m < A ∧ S0.1 r 28 k = nI m ∧ ((S0.1 r 3 m = 4 ∧ ∃ e, e < E ∧ S0.1 r 4 m = nI e ∧ i = e) ∨ (m = 2 ∧ k + 1 = nt ∧ i = 16)) := by
    intro k hk
    obtain ⟨m, hm, em, dm, hkind⟩ := rT k hk
    have t1 : tN (S0.1 r 28 k) = m := by rw [em]; exact nI_clamp (by omega)
    rcases hkind with k4 | ⟨m2, hl⟩
    · obtain ⟨_, e, he, _, ea, ec⟩ := row_4 rOk (by omega) hE hm k4
      refine ⟨e, m, by omega, ?_, ⟨m, hm, dm, ?_⟩, hm, em, Or.inl ⟨k4, e, he, ea, rfl⟩⟩
      · unfold tlc; rw [t1, zc_U (by omega)]; exact ec.symm
      · rw [zc_U (by omega)]; exact ec
    · subst m2
      have c2 : rCd S0 r 2 = cX := (cd_0 hX.2.2.1 (by omega) hE).2.2
      refine ⟨16, 2, by omega, ?_, ⟨2, hm, dm, ?_⟩, hm, em, Or.inr ⟨rfl, hl, rfl⟩⟩
      · unfold tlc; rw [t1, zc_X]; exact c2.symm
      · rw [zc_X]; exact c2
  -- positions chosen
  let posW : Nat → Nat := fun k => Classical.epsilon (fun i => i < 33 ∧ zc i = wlc r S0 k)
  let posT : Nat → Nat := fun k => Classical.epsilon (fun i => i < 33 ∧ zc i = tlc r S0 k)
  have pW : ∀ k, k < nw → ∀ i, i < 33 → zc i = wlc r S0 k → posW k = i := fun k hk i hi e => by
    have q := Classical.epsilon_spec (p := fun i => i < 33 ∧ zc i = wlc r S0 k) ⟨i, hi, e⟩
    exact zc_inj q.1 hi (q.2.trans e.symm)
  have pT : ∀ k, k < nt → ∀ i, i < 33 → zc i = tlc r S0 k → posT k = i := fun k hk i hi e => by
    have q := Classical.epsilon_spec (p := fun i => i < 33 ∧ zc i = tlc r S0 k) ⟨i, hi, e⟩
    exact zc_inj q.1 hi (q.2.trans e.symm)
  have nodeOf : ∀ i, i < 33 → DC r A S0 (zc i) → ∃ m, m < A ∧ dpN S0 r m ∧ rCd S0 r m = zc i := fun i hi ⟨m, h1, h2, h3⟩ => ⟨m, h1, h2, h3⟩
  have enW := cnt_enum (Q := wP (PD (DC r A S0))) (pos := posW) (n := nw) (N := 33) (fun k hk => by
      obtain ⟨i, m, e, hi, hi', ez, hd, _⟩ := plW k hk
      rw [pW k hk i hi ez]
      exact ⟨hi, wP_iff.mpr ⟨hi', PD_iff.mpr ⟨hi, hd⟩⟩⟩) (fun k k' hkk hk' => by
      obtain ⟨i, m, e, hi, hi', ez, hd, hm, em, km, he, ea, ei⟩ := plW k (by omega)
      obtain ⟨j, m', e', hj, hj', ez', hd', hm', em', km', he', ea', ej⟩ := plW k' hk'
      rw [pW k (by omega) i hi ez, pW k' hk' j hj ez']
      have lt := rWo k k' m m' hkk hk' em em' hm hm'
      have := hO m m' e e' lt hm' (Or.inl km) (Or.inl km') ea ea' (by omega) (by omega)
      omega) (fun i hi hp => by
      obtain ⟨h17, hq⟩ := wP_iff.mp hp
      obtain ⟨m, hm, dm, em⟩ := nodeOf i hi (PD_iff.mp hq).2
      have kz := (zc_k hi).2 h17
      have km : S0.1 r 3 m = 3 := by rw [(cd_kind rOk (by omega) hE hm).1, show cd _ _ _ _ m = zc i from em, kz]; rfl
      obtain ⟨k, hk, ek⟩ := (rWa m hm dm).1 km
      have t1 : tN (S0.1 r 26 k) = m := by rw [ek]; exact nI_clamp (by omega)
      refine ⟨k, hk, pW k hk i hi ?_⟩
      unfold wlc; rw [t1]; exact em.symm)
  have enT := cnt_enum (Q := tP (PD (DC r A S0))) (pos := posT) (n := nt) (N := 17) (fun k hk => by
      obtain ⟨i, m, hi, ez, hd, _⟩ := plT k hk
      rw [pT k hk i (by omega) ez]
      exact ⟨hi, tP_iff.mpr ⟨hi, PD_iff.mpr ⟨by omega, hd⟩⟩⟩) (fun k k' hkk hk' => by
      obtain ⟨i, m, hi, ez, hd, hm, em, hc⟩ := plT k (by omega)
      obtain ⟨j, m', hj, ez', hd', hm', em', hc'⟩ := plT k' hk'
      rw [pT k (by omega) i (by omega) ez, pT k' hk' j (by omega) ez']
      obtain ⟨z1, z2⟩ := rTo k k' m m' hkk hk' em em' hm hm'
      rcases hc with ⟨k4, e, he, ea, ei⟩ | ⟨m2, hl, ei⟩
      · rcases hc' with ⟨k4', e', he', ea', ej⟩ | ⟨m2', hl', ej⟩
        · have := hO m m' e e' (z2 k4') hm' (Or.inr k4) (Or.inr k4') ea ea' (by omega) (by omega)
          omega
        · omega
      · omega) (fun i hi hp => by
      obtain ⟨_, hq⟩ := tP_iff.mp hp
      obtain ⟨m, hm, dm, em⟩ := nodeOf i (by omega) (PD_iff.mp hq).2
      have kz := (zc_k (show i < 33 by omega)).1 hi
      have km : S0.1 r 3 m = 4 ∨ S0.1 r 3 m = 2 := by
        rw [(cd_kind rOk (by omega) hE hm).1, show cd _ _ _ _ m = zc i from em]
        rcases kz with q | q
        · rw [q]; exact Or.inr rfl
        · rw [q]; exact Or.inl rfl
      obtain ⟨k, hk, ek⟩ := rTa m hm dm km
      have t1 : tN (S0.1 r 28 k) = m := by rw [ek]; exact nI_clamp (by omega)
      refine ⟨k, hk, pT k hk i (by omega) ?_⟩
      unfold tlc; rw [t1]; exact em.symm)
  refine ⟨enT.2.symm, enW.2.symm, fun t i hp => ?_, fun i hp => ?_, fun k hk => ?_⟩
  · obtain ⟨hi, hq⟩ := tP_iff.mp hp
    obtain ⟨m, hm, dm, em⟩ := nodeOf i (by omega) (PD_iff.mp hq).2
    have kz := (zc_k (show i < 33 by omega)).1 hi
    have km : S0.1 r 3 m = 4 ∨ S0.1 r 3 m = 2 := by
      rw [(cd_kind rOk (by omega) hE hm).1, show cd _ _ _ _ m = zc i from em]
      rcases kz with q | q
      · rw [q]; exact Or.inr rfl
      · rw [q]; exact Or.inl rfl
    obtain ⟨k, hk, ek⟩ := rTa m hm dm km
    have t1 : tN (S0.1 r 28 k) = m := by rw [ek]; exact nI_clamp (by omega)
    have et : zc i = tlc r S0 k := by unfold tlc; rw [t1]; exact em.symm
    have := enT.1 k hk
    rw [pT k hk i (by omega) et] at this
    rw [this, et, tau_w hE hX hR' hk]
    rfl
  · obtain ⟨h17, hq⟩ := wP_iff.mp hp
    have hi := (PD_iff.mp hq).1
    obtain ⟨m, hm, dm, em⟩ := nodeOf i hi (PD_iff.mp hq).2
    have kz := (zc_k hi).2 h17
    have km : S0.1 r 3 m = 3 := by rw [(cd_kind rOk (by omega) hE hm).1, show cd _ _ _ _ m = zc i from em, kz]; rfl
    obtain ⟨k, hk, ek⟩ := (rWa m hm dm).1 km
    have t1 : tN (S0.1 r 26 k) = m := by rw [ek]; exact nI_clamp (by omega)
    have et : zc i = wlc r S0 k := by unfold wlc; rw [t1]; exact em.symm
    have := enW.1 k hk
    rw [pW k hk i hi et] at this
    exact ⟨k, hk, et.symm, this⟩
  · obtain ⟨i, m, e, hi, hi', ez, hd, _⟩ := plW k hk
    have := enW.1 k hk
    rw [pW k hk i hi ez] at this
    exact ⟨i, hi, wP_iff.mpr ⟨hi', PD_iff.mpr ⟨hi, hd⟩⟩, ez, this⟩
end RSEM
