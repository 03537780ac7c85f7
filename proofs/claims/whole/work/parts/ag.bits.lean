/-! BITS OF A LONG -/
def bt (x : Int64) (t : Nat) : Bool := x.toBitVec.getLsbD t
theorem bt_and (x y : Int64) (t : Nat) : bt (x &&& y) t = (bt x t && bt y t) := by
  unfold bt
  rw [Int64.toBitVec_and, BitVec.getLsbD_and]
theorem bt_or (x y : Int64) (t : Nat) : bt (x ||| y) t = (bt x t || bt y t) := by
  unfold bt
  rw [Int64.toBitVec_or, BitVec.getLsbD_or]
theorem bt_xor (x y : Int64) (t : Nat) : bt (x ^^^ y) t = (bt x t ^^ bt y t) := by
  unfold bt
  rw [Int64.toBitVec_xor, BitVec.getLsbD_xor]
theorem bt_m1 {t : Nat} (h : t < 64) : bt (-1) t = true := by
  unfold bt
  have e : (-1 : Int64).toBitVec = BitVec.allOnes 64 := by decide
  rw [e, BitVec.getLsbD_allOnes]
  exact decide_eq_true h
theorem bt_0 (t : Nat) : bt 0 t = false := by
  unfold bt
  have e : (0 : Int64).toBitVec = 0#64 := by decide
  rw [e, BitVec.getLsbD_zero]
theorem bt_not (x : Int64) {t : Nat} (h : t < 64) : bt (x ^^^ (-1)) t = !bt x t := by
  rw [bt_xor, bt_m1 h, Bool.xor_true]
theorem bt_big (x : Int64) {t : Nat} (h : 64 ≤ t) : bt x t = false := by
  unfold bt
  exact BitVec.getLsbD_of_ge _ _ h
theorem bt_ext {x y : Int64} (h : ∀ t, t < 64 → bt x t = bt y t) : x = y := by
  apply Int64.toBitVec_inj.mp
  apply BitVec.eq_of_getLsbD_eq
  intro i hi
  exact h i hi
theorem bt_ne {x : Int64} : ¬ x = 0 ↔ ∃ t, t < 64 ∧ bt x t = true := by
  constructor
  · intro h
    apply Classical.byContradiction
    intro hn
    apply h
    refine bt_ext (fun t ht => ?_)
    rw [bt_0]
    cases q : bt x t with
    | false => rfl
    | true => exact absurd ⟨t, ht, q⟩ hn
  · rintro ⟨t, _, h⟩ e
    rw [e, bt_0] at h
    cases h
set_option maxRecDepth 100000 in
theorem bt_col : ∀ b, b < 6 → ∀ t, t < 64 → bt (qCol b) t = decide (t / 2 ^ b % 2 = 1) := by decide
set_option maxRecDepth 100000 in
theorem bt_w0 : ∀ k, k < 8 → (-((nI k &&& 1).toInt64)) = (if k % 2 = 1 then (-1 : Int64) else 0) := by decide
set_option maxRecDepth 100000 in
theorem bt_w1 : ∀ k, k < 8 → (-(((nI k >>> ((1 : Int32) &&& 31)) &&& 1).toInt64)) = (if k / 2 % 2 = 1 then (-1 : Int64) else 0) := by decide
set_option maxRecDepth 100000 in
theorem bt_w2 : ∀ k, k < 8 → (-(((nI k >>> ((2 : Int32) &&& 31)) &&& 1).toInt64)) = (if k / 4 % 2 = 1 then (-1 : Int64) else 0) := by decide
/-- the states below a number -/
def below (i : Nat) : Int64 := if i < 64 then ((1 : Int64) <<< ((nI i).toInt64 &&& 63)) - 1 else -1
set_option maxRecDepth 100000 in
set_option maxHeartbeats 4000000 in
theorem bt_below : ∀ i, i < 64 → ∀ t, t < 64 → bt (((1 : Int64) <<< ((nI i).toInt64 &&& 63)) - 1) t = decide (t < i) := by decide
theorem bt_bel {i t : Nat} (ht : t < 64) : bt (below i) t = decide (t < i) := by
  unfold below
  by_cases h : i < 64
  · rw [if_pos h]; exact bt_below i h t ht
  · rw [if_neg h, bt_m1 ht, decide_eq_true (by omega)]
/-- the lowest bit alone -/
theorem low_bit {x : Int64} {t : Nat} (ht : t < 64) (h1 : bt x t = true) (h0 : ∀ i, i < t → bt x i = false) : x &&& (-x) = Int64.ofNat (2 ^ t) := by
  have hx : x.toBitVec.toNat < 2 ^ 64 := x.toBitVec.isLt
  generalize hX : x.toBitVec.toNat = X at hx
  have tb : ∀ i, X.testBit i = bt x i := fun i => by unfold bt; rw [← hX]; rfl
  -- X = 2 ^ t * (2 m + 1)
  have hdiv : X % 2 ^ t = 0 := by
    apply Nat.eq_of_testBit_eq
    intro i
    rw [Nat.testBit_mod_two_pow, Nat.zero_testBit]
    by_cases z : i < t
    · rw [tb, h0 i z, Bool.and_false]
    · rw [decide_eq_false z, Bool.false_and]
  have hq : X = 2 ^ t * (X / 2 ^ t) := by
    have := Nat.div_add_mod X (2 ^ t)
    omega
  have hodd : (X / 2 ^ t) % 2 = 1 := by
    have := tb t
    rw [h1, Nat.testBit_eq_decide_div_mod_eq] at this
    exact of_decide_eq_true this
  generalize hY : X / 2 ^ t = Y at hq hodd
  obtain ⟨m, hm⟩ : ∃ m, Y = 2 * m + 1 := ⟨Y / 2, by omega⟩
  subst hm
  have hpos : 0 < 2 ^ t := Nat.two_pow_pos t
  have hX0 : 0 < X := by rw [hq]; exact Nat.mul_pos hpos (by omega)
  have hpow : 2 ^ 64 = 2 ^ t * 2 ^ (64 - t) := by rw [← Nat.pow_add]; congr 1; omega
  have hlt : 2 * m + 1 < 2 ^ (64 - t) := by
    have : 2 ^ t * (2 * m + 1) < 2 ^ t * 2 ^ (64 - t) := by rw [← hq, ← hpow]; exact hx
    exact Nat.lt_of_mul_lt_mul_left this
  have hneg : (-x).toBitVec.toNat = 2 ^ t * (2 ^ (64 - t) - (2 * m + 1)) := by
    rw [Int64.toBitVec_neg, BitVec.toNat_neg, hX, Nat.mod_eq_of_lt (by omega), hpow, hq, ← Nat.mul_sub]
  apply Int64.toBitVec_inj.mp
  apply BitVec.eq_of_getLsbD_eq
  intro i hi
  rw [Int64.toBitVec_and, BitVec.getLsbD_and]
  show (x.toBitVec.toNat.testBit i && (-x).toBitVec.toNat.testBit i) = (Int64.ofNat (2 ^ t)).toBitVec.getLsbD i
  rw [hneg, hX, hq, Nat.testBit_two_pow_mul, Nat.testBit_two_pow_mul, Nat.testBit_two_pow_sub_succ (by omega)]
  have e3 : (Int64.ofNat (2 ^ t)).toBitVec = BitVec.ofNat 64 (2 ^ t) := rfl
  rw [e3, BitVec.getLsbD_ofNat, Nat.testBit_two_pow, decide_eq_true hi, Bool.true_and]
  by_cases z : t ≤ i
  · rw [decide_eq_true (show i ≥ t from z), Bool.true_and, Bool.true_and]
    by_cases y : i = t
    · subst y
      rw [Nat.sub_self, decide_eq_true (show 0 < 64 - i by omega), Bool.true_and, decide_eq_true rfl, Nat.testBit_zero, Nat.testBit_zero]
      have a1 : (2 * m + 1) % 2 = 1 := by omega
      have a2 : ¬ (2 * m) % 2 = 1 := by omega
      rw [decide_eq_true a1, decide_eq_false a2]; rfl
    · obtain ⟨j, hj⟩ : ∃ j, i - t = j + 1 := ⟨i - t - 1, by omega⟩
      have hd : decide (t = i) = false := decide_eq_false (fun e => y e.symm)
      rw [hd, hj, Nat.testBit_succ, Nat.testBit_succ, show (2 * m + 1) / 2 = m by omega, show (2 * m) / 2 = m by omega]
      cases m.testBit j <;> cases decide (j + 1 < 64 - t) <;> rfl
  · have hd : decide (t = i) = false := decide_eq_false (fun e => z (by omega))
    rw [decide_eq_false (show ¬ i ≥ t from z), hd]; rfl
/-- how many bits there are -/
def bitC (l0 : Int64) : Int32 :=
  let v1 := l0 - (((l0.toUInt64 >>> ((1 : Int32).toInt64.toUInt64 &&& Int64.toUInt64 63)).toInt64) &&& (6148914691236517205 : Int64))
  let v2 := (v1 &&& (3689348814741910323 : Int64)) + (((v1.toUInt64 >>> ((2 : Int32).toInt64.toUInt64 &&& Int64.toUInt64 63)).toInt64) &&& (3689348814741910323 : Int64))
  let v3 := (v2 + ((v2.toUInt64 >>> ((4 : Int32).toInt64.toUInt64 &&& Int64.toUInt64 63)).toInt64)) &&& (1085102592571150095 : Int64)
  let v4 := v3 + ((v3.toUInt64 >>> ((8 : Int32).toInt64.toUInt64 &&& Int64.toUInt64 63)).toInt64)
  let v5 := v4 + ((v4.toUInt64 >>> ((16 : Int32).toInt64.toUInt64 &&& Int64.toUInt64 63)).toInt64)
  let v6 := v5 + ((v5.toUInt64 >>> ((32 : Int32).toInt64.toUInt64 &&& Int64.toUInt64 63)).toInt64)
  v6.toInt32 &&& (127 : Int32)
theorem cls_bitCount {O : qOb9} {n : Nat} {S : qS} (x : Int64) : G_JLong_bitCount O n x S = some (bitC x, S) := rfl
set_option maxRecDepth 100000 in
theorem bitC_pow : ∀ t, t < 64 → bitC (Int64.ofNat (2 ^ t) - 1) = nI t := by decide
theorem low_index {x : Int64} {t : Nat} (ht : t < 64) (h1 : bt x t = true) (h0 : ∀ i, i < t → bt x i = false) : bitC ((x &&& (-x)) - 1) = nI t := by
  rw [low_bit ht h1 h0]; exact bitC_pow t ht
/-- the lowest set bit is there -/
theorem low_ex {x : Int64} (h : ¬ x = 0) : ∃ t, t < 64 ∧ bt x t = true ∧ ∀ i, i < t → bt x i = false := by
  obtain ⟨t, ht, hb⟩ := bt_ne.mp h
  have key : ∀ t, bt x t = true → ∃ t', t' ≤ t ∧ bt x t' = true ∧ ∀ i, i < t' → bt x i = false := by
    intro t
    induction t using Nat.strongRecOn with
    | ind t ih =>
      intro hb
      by_cases z : ∃ i, i < t ∧ bt x i = true
      · obtain ⟨i, hi, hbi⟩ := z
        obtain ⟨t', h1, h2, h3⟩ := ih i hi hbi
        exact ⟨t', by omega, h2, h3⟩
      · refine ⟨t, Nat.le_refl t, hb, fun i hi => ?_⟩
        cases q : bt x i with
        | false => rfl
        | true => exact absurd ⟨i, hi, q⟩ z
  obtain ⟨t', h1, h2, h3⟩ := key t hb
  exact ⟨t', by omega, h2, h3⟩
