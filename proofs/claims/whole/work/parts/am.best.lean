/-! THE BEST SO FAR -/
theorem lex_eqr {n : Nat} {a b d : Nat → Nat} (h : lexLt n a b) (e : ∀ i, i < n → b i = d i) : lexLt n a d := by
  obtain ⟨i, hi, h1, h2⟩ := h
  exact ⟨i, hi, fun j hj => (h1 j hj).trans (e j (by omega)), by rw [← e i hi]; exact h2⟩
theorem lex_eql {n : Nat} {a b d : Nat → Nat} (h : lexLt n a b) (e : ∀ i, i < n → a i = d i) : lexLt n d b := by
  obtain ⟨i, hi, h1, h2⟩ := h
  exact ⟨i, hi, fun j hj => (e j (by omega)).symm.trans (h1 j hj), by rw [← e i hi]; exact h2⟩
theorem lex_trans {n : Nat} {a b d : Nat → Nat} (h : lexLt n a b) (h' : lexLt n b d) : lexLt n a d := by
  obtain ⟨i, hi, h1, h2⟩ := h
  obtain ⟨j, hj, g1, g2⟩ := h'
  by_cases z : i < j
  · exact ⟨i, hi, fun k hk => (h1 k hk).trans (g1 k (by omega)), by rw [← g1 i z]; exact h2⟩
  · by_cases y : i = j
    · subst y
      exact ⟨i, hi, fun k hk => (h1 k hk).trans (g1 k hk), by omega⟩
    · exact ⟨j, hj, fun k hk => (h1 k (by omega)).trans (g1 k hk), by rw [h1 j (by omega)]; exact g2⟩
abbrev Bt : Type := Option (Nat × (Nat → Nat) × Nat)
/-- the best is not behind this -/
def leB (nw : Nat) (B : Bt) (t : Nat) (v : Nat → Nat) (e : Nat) : Prop := ∃ t0 w0 e0, B = some (t0, w0, e0) ∧ (t0 < t ∨ (t0 = t ∧ (lexLt nw w0 v ∨ ((∀ i, i < nw → w0 i = v i) ∧ e0 ≤ e))))
/-- the best of what was visited -/
def BIv (nw nt : Nat) (F : Nat → (Nat → Nat) → Nat → Prop) (B : Bt) (Vis : (Nat → Nat) → Prop) : Prop :=
  (∀ t0 w0 e0, B = some (t0, w0, e0) → t0 < 2 ^ nt ∧ ∃ v0, Vis v0 ∧ (∀ i, i < nw → v0 i = w0 i) ∧ F t0 v0 e0) ∧ ∀ t v e, t < 2 ^ nt → Vis v → F t v e → leB nw B t v e
section BEST
variable {nw nt K : Nat} {F : Nat → (Nat → Nat) → Nat → Prop} {B B' : Bt} {Vis Vis' : (Nat → Nat) → Prop}
theorem leB_congr {t e : Nat} {v v' : Nat → Nat} (h : leB nw B t v e) (he : ∀ i, i < nw → v i = v' i) : leB nw B t v' e := by
  obtain ⟨t0, w0, e0, eb, hc⟩ := h
  refine ⟨t0, w0, e0, eb, ?_⟩
  rcases hc with z | ⟨z, y | ⟨y1, y2⟩⟩
  · exact Or.inl z
  · exact Or.inr ⟨z, Or.inl (lex_eqr y he)⟩
  · exact Or.inr ⟨z, Or.inr ⟨fun i hi => (y1 i hi).trans (he i hi), y2⟩⟩
theorem leB_mono (h : BIv nw nt F B Vis) (h' : BIv nw nt F B' Vis') (hs : ∀ v, Vis v → Vis' v) {t e : Nat} {v : Nat → Nat} (hl : leB nw B t v e) : leB nw B' t v e := by
  obtain ⟨t0, w0, e0, eb, hc⟩ := hl
  obtain ⟨ht, v0, hv, ev, hf⟩ := h.1 t0 w0 e0 eb
  obtain ⟨t1, w1, e1, eb1, hc1⟩ := h'.2 t0 v0 e0 ht (hs v0 hv) hf
  refine ⟨t1, w1, e1, eb1, ?_⟩
  rcases hc1 with z | ⟨z, hz⟩
  · rcases hc with y | ⟨y, _⟩
    · exact Or.inl (by omega)
    · exact Or.inl (by omega)
  · rcases hc with y | ⟨y, hy⟩
    · exact Or.inl (by omega)
    · refine Or.inr ⟨by omega, ?_⟩
      rcases hz with a | ⟨a1, a2⟩
      · have a' := lex_eqr a ev
        rcases hy with b | ⟨b1, b2⟩
        · exact Or.inl (lex_trans a' b)
        · exact Or.inl (lex_eqr a' b1)
      · have a' : ∀ i, i < nw → w1 i = w0 i := fun i hi => (a1 i hi).trans (ev i hi)
        rcases hy with b | ⟨b1, b2⟩
        · exact Or.inl (lex_eql b (fun i hi => (a' i hi).symm))
        · exact Or.inr ⟨fun i hi => (a' i hi).trans (b1 i hi), by omega⟩
theorem BIv_iff (h : BIv nw nt F B Vis) (hs : ∀ v, Vis v ↔ Vis' v) : BIv nw nt F B Vis' := by
  refine ⟨fun t0 w0 e0 eb => ?_, fun t v e ht hv hf => h.2 t v e ht ((hs v).mpr hv) hf⟩
  obtain ⟨ht, v0, hv, ev, hf⟩ := h.1 t0 w0 e0 eb
  exact ⟨ht, v0, (hs v0).mp hv, ev, hf⟩
/-- strings that cannot be better are visited for nothing -/
theorem BIv_more (h : BIv nw nt F B Vis) {N : (Nat → Nat) → Prop} (hN : ∀ t v e, t < 2 ^ nt → N v → F t v e → leB nw B t v e) : BIv nw nt F B (fun v => Vis v ∨ N v) := by
  refine ⟨fun t0 w0 e0 eb => ?_, fun t v e ht hv hf => ?_⟩
  · obtain ⟨ht, v0, hv, ev, hf⟩ := h.1 t0 w0 e0 eb
    exact ⟨ht, v0, Or.inl hv, ev, hf⟩
  · rcases hv with z | z
    · exact h.2 t v e ht z hf
    · exact hN t v e ht z hf
/-- one more string, and its least state and claim -/
theorem BIv_look (hnw : nw ≤ K) (h : BIv nw nt F B Vis) {ν : Nat → Nat} (hF : ∀ t v e, (∀ i, i < K → v i = ν i) → F t v e → F t ν e) {t' e' : Nat} (ht' : t' < 2 ^ nt) (hf' : F t' ν e') (h2 : ∀ t e, t < 2 ^ nt → F t ν e → leB nw B t ν e ∨ t' < t ∨ (t' = t ∧ e' ≤ e)) (h3 : ∀ t0 w0 e0, B = some (t0, w0, e0) → t' < t0 ∨ ∀ i, i < nw → w0 i = ν i) :
    ((∀ t0 w0 e0, B = some (t0, w0, e0) → t' < t0 ∨ (t' = t0 ∧ e' < e0)) → BIv nw nt F (some (t', ν, e')) (fun v => Vis v ∨ ∀ i, i < K → v i = ν i)) ∧
    (∀ t0 w0 e0, B = some (t0, w0, e0) → (t0 < t' ∨ (t0 = t' ∧ e0 ≤ e')) → BIv nw nt F B (fun v => Vis v ∨ ∀ i, i < K → v i = ν i)) := by
  constructor
  · intro hb
    have up : ∀ {t e : Nat} {v : Nat → Nat}, leB nw B t v e → leB nw (some (t', ν, e')) t v e := by
      rintro t e v ⟨t0, w0, e0, eb, hc⟩
      refine ⟨t', ν, e', rfl, ?_⟩
      rcases hb t0 w0 e0 eb with y | ⟨y1, y2⟩
      · rcases hc with z | ⟨z, _⟩
        · exact Or.inl (by omega)
        · exact Or.inl (by omega)
      · have hw : ∀ i, i < nw → w0 i = ν i := (h3 t0 w0 e0 eb).elim (fun z => by omega) id
        rcases hc with z | ⟨z, a | ⟨a1, a2⟩⟩
        · exact Or.inl (by omega)
        · exact Or.inr ⟨by omega, Or.inl (lex_eql a hw)⟩
        · exact Or.inr ⟨by omega, Or.inr ⟨fun i hi => (hw i hi).symm.trans (a1 i hi), by omega⟩⟩
    refine ⟨fun t0 w0 e0 eb => ?_, fun t v e ht hv hf => ?_⟩
    · injection eb with eb
      injection eb with e1 e2
      injection e2 with e2 e3
      subst e1; subst e2; subst e3
      exact ⟨ht', ν, Or.inr (fun _ _ => rfl), fun _ _ => rfl, hf'⟩
    · rcases hv with z | z
      · exact up (h.2 t v e ht z hf)
      · rcases h2 t e ht (hF t v e z hf) with y | y | ⟨y1, y2⟩
        · exact up (leB_congr y (fun i hi => (z i (by omega)).symm))
        · exact ⟨t', ν, e', rfl, Or.inl y⟩
        · exact ⟨t', ν, e', rfl, Or.inr ⟨y1, Or.inr ⟨fun i hi => (z i (by omega)).symm, y2⟩⟩⟩
  · intro t0 w0 e0 eb hb
    refine BIv_more h (fun t v e ht z hf => ?_)
    rcases h2 t e ht (hF t v e z hf) with y | y | ⟨y1, y2⟩
    · exact leB_congr y (fun i hi => (z i (by omega)).symm)
    · exact ⟨t0, w0, e0, eb, Or.inl (by omega)⟩
    · refine ⟨t0, w0, e0, eb, ?_⟩
      rcases hb with a | ⟨a1, a2⟩
      · exact Or.inl (by omega)
      · have hw : ∀ i, i < nw → w0 i = ν i := (h3 t0 w0 e0 eb).elim (fun z => by omega) id
        exact Or.inr ⟨by omega, Or.inr ⟨fun i hi => (hw i hi).trans (z i (by omega)).symm, by omega⟩⟩
end BEST
/-- the bit of a state -/
theorem bt_one (i : Nat) : bt 1 i = decide (i = 0) := by
  unfold bt
  have e : (1 : Int64).toBitVec = 1#64 := by decide
  rw [e, BitVec.getLsbD_one]
  by_cases z : i = 0
  · rw [decide_eq_true z]; rfl
  · rw [decide_eq_false z]; rfl
set_option maxRecDepth 100000 in
theorem shr_at : ∀ t, t < 64 → ((nI t).toInt64.toUInt64 &&& Int64.toUInt64 63) = UInt64.ofNat t := by decide
theorem bt_shr (v : Int64) {t i : Nat} (ht : t < 64) : bt ((v.toUInt64 >>> ((nI t).toInt64.toUInt64 &&& Int64.toUInt64 63)).toInt64) i = bt v (t + i) := by
  rw [shr_at t ht]
  unfold bt
  show (v.toUInt64 >>> UInt64.ofNat t).toBitVec.getLsbD i = v.toBitVec.getLsbD (t + i)
  rw [UInt64.toBitVec_shiftRight, BitVec.ushiftRight_eq', BitVec.getLsbD_ushiftRight]
  have e : ((UInt64.ofNat t).toBitVec % 64).toNat = t := by
    rw [BitVec.toNat_umod]
    show (UInt64.ofNat t).toBitVec.toNat % 64 = t
    have : (UInt64.ofNat t).toBitVec.toNat = t := by
      show (UInt64.ofNat t).toNat = t
      exact UInt64.toNat_ofNat_of_lt' (by show t < 2 ^ 64; omega)
    rw [this]
    exact Nat.mod_eq_of_lt ht
  rw [e]
  rfl
theorem bit_is (v : Int64) {t : Nat} (ht : t < 64) : (((v.toUInt64 >>> ((nI t).toInt64.toUInt64 &&& Int64.toUInt64 63)).toInt64) &&& (1 : Int64)) = 1 ↔ bt v t = true := by
  constructor
  · intro h
    have := congrArg (fun y => bt y 0) h
    rw [show bt (((v.toUInt64 >>> ((nI t).toInt64.toUInt64 &&& Int64.toUInt64 63)).toInt64) &&& (1 : Int64)) 0 = (bt ((v.toUInt64 >>> ((nI t).toInt64.toUInt64 &&& Int64.toUInt64 63)).toInt64) 0 && bt 1 0) from bt_and _ _ _, bt_shr v ht, bt_one] at this
    rw [Nat.add_zero, decide_eq_true rfl, Bool.and_true] at this
    exact this
  · intro h
    refine bt_ext (fun i hi => ?_)
    rw [bt_and, bt_shr v ht, bt_one]
    by_cases z : i = 0
    · subst z; rw [Nat.add_zero, h]; rfl
    · rw [decide_eq_false z, Bool.and_false]
