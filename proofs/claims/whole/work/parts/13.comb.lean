/-! THE PURE MACHINE: its steps as functions, and what their success says -/
abbrev qRs : Type := Option Value ⊕ String
abbrev qO : Type := Option (qRs × PM)
theorem nI_of_nn {i : Int32} (h : ¬ i < 0) : i = nI i.toNatClampNeg := by
  obtain ⟨j, hj, e⟩ := nI_of h
  rw [e, nI_clamp hj]
def kO (ci : Nat) (M : PM) (b : Nat) (x : qO) : qO := if mK M b = ci + 3 then x else none
theorem kO_inv {ci : Nat} {M : PM} {b : Nat} {x : qO} {r : qRs × PM} (h : kO ci M b x = some r) : mK M b = ci + 3 ∧ x = some r := by
  unfold kO at h
  split at h
  · exact ⟨by assumption, h⟩
  · cases h
def gI (ci : Nat) (M : PM) (a j : Nat) (k : Int32 → qO) : qO := if mK M a = ci + 3 then (match mF M a j with | .int v => k v | _ => none) else none
theorem gI_inv {ci : Nat} {M : PM} {a j : Nat} {k : Int32 → qO} {r : qRs × PM} (h : gI ci M a j k = some r) : ∃ v, mK M a = ci + 3 ∧ mF M a j = .int v ∧ k v = some r := by
  unfold gI at h
  split at h
  · rename_i h1
    split at h
    · rename_i v h2
      exact ⟨v, h1, h2, h⟩
    · cases h
  · cases h
theorem gI_eq {ci : Nat} {M : PM} {a j : Nat} {v : Int32} {k : Int32 → qO} (h1 : mK M a = ci + 3) (h2 : mF M a j = .int v) : gI ci M a j k = k v := by
  unfold gI
  rw [if_pos h1, h2]
def gJ (ci : Nat) (M : PM) (a j : Nat) (k : Int64 → qO) : qO := if mK M a = ci + 3 then (match mF M a j with | .long v => k v | _ => none) else none
theorem gJ_inv {ci : Nat} {M : PM} {a j : Nat} {k : Int64 → qO} {r : qRs × PM} (h : gJ ci M a j k = some r) : ∃ v, mK M a = ci + 3 ∧ mF M a j = .long v ∧ k v = some r := by
  unfold gJ at h
  split at h
  · rename_i h1
    split at h
    · rename_i v h2
      exact ⟨v, h1, h2, h⟩
    · cases h
  · cases h
theorem gJ_eq {ci : Nat} {M : PM} {a j : Nat} {v : Int64} {k : Int64 → qO} (h1 : mK M a = ci + 3) (h2 : mF M a j = .long v) : gJ ci M a j k = k v := by
  unfold gJ
  rw [if_pos h1, h2]
def gR (ci : Nat) (M : PM) (a j : Nat) (k : Nat → qO) : qO := if mK M a = ci + 3 then (match mF M a j with | .ref v => k v | _ => none) else none
theorem gR_inv {ci : Nat} {M : PM} {a j : Nat} {k : Nat → qO} {r : qRs × PM} (h : gR ci M a j k = some r) : ∃ v, mK M a = ci + 3 ∧ mF M a j = .ref v ∧ k v = some r := by
  unfold gR at h
  split at h
  · rename_i h1
    split at h
    · rename_i v h2
      exact ⟨v, h1, h2, h⟩
    · cases h
  · cases h
theorem gR_eq {ci : Nat} {M : PM} {a j : Nat} {v : Nat} {k : Nat → qO} (h1 : mK M a = ci + 3) (h2 : mF M a j = .ref v) : gR ci M a j k = k v := by
  unfold gR
  rw [if_pos h1, h2]
def pF (ci : Nat) (M : PM) (a j : Nat) (v : Value) (k : PM → qO) : qO := if mK M a = ci + 3 then k (sF M a j v) else none
theorem pF_inv {ci : Nat} {M : PM} {a j : Nat} {v : Value} {k : PM → qO} {r : qRs × PM} (h : pF ci M a j v k = some r) : ∃ M1, mK M a = ci + 3 ∧ M1 = sF M a j v ∧ k M1 = some r := by
  unfold pF at h
  split at h
  · exact ⟨_, by assumption, rfl, h⟩
  · cases h
def aL (M : PM) (a : Nat) (k : Int32 → qO) : qO := if mK M a < 3 then k (nI (mN M a)) else none
theorem aL_inv {M : PM} {a : Nat} {k : Int32 → qO} {r : qRs × PM} (h : aL M a k = some r) : ∃ v, mK M a < 3 ∧ v = nI (mN M a) ∧ k v = some r := by
  unfold aL at h
  split at h
  · exact ⟨_, by assumption, rfl, h⟩
  · cases h
def mA (kd : Nat) (M : PM) (i : Int32) (k : Nat → PM → qO) : qO := if ¬ i < 0 ∧ i.toNatClampNeg ≤ 67108864 then k (mS M) (nA M kd i.toNatClampNeg) else none
theorem mA_inv {kd : Nat} {M : PM} {i : Int32} {k : Nat → PM → qO} {r : qRs × PM} (h : mA kd M i k = some r) : ∃ q M1, i = nI i.toNatClampNeg ∧ i.toNatClampNeg ≤ 67108864 ∧ q = mS M ∧ M1 = nA M kd i.toNatClampNeg ∧ k q M1 = some r := by
  unfold mA at h
  split at h
  · rename_i h1
    exact ⟨_, _, nI_of_nn h1.1, h1.2, rfl, rfl, h⟩
  · cases h
def lI (M : PM) (a : Nat) (i : Int32) (k : Int32 → qO) : qO := if mK M a = 0 ∧ ¬ i < 0 ∧ i.toNatClampNeg < mN M a then k (mI M a i.toNatClampNeg) else none
theorem lI_inv {M : PM} {a : Nat} {i : Int32} {k : Int32 → qO} {r : qRs × PM} (h : lI M a i k = some r) : ∃ v, mK M a = 0 ∧ i = nI i.toNatClampNeg ∧ i.toNatClampNeg < mN M a ∧ v = mI M a i.toNatClampNeg ∧ k v = some r := by
  unfold lI at h
  split at h
  · rename_i h1
    exact ⟨_, h1.1, nI_of_nn h1.2.1, h1.2.2, rfl, h⟩
  · cases h
theorem lI_eq {M : PM} {a j : Nat} {k : Int32 → qO} (h1 : mK M a = 0) (hj : j < mN M a) (hn : mN M a < 2 ^ 31) : lI M a (nI j) k = k (mI M a j) := by
  unfold lI
  rw [nI_clamp (Nat.lt_trans hj hn), if_pos ⟨h1, nI_pos (Nat.lt_trans hj hn), hj⟩]
def lZ (M : PM) (a : Nat) (i : Int32) (k : Int32 → qO) : qO := if mK M a = 1 ∧ ¬ i < 0 ∧ i.toNatClampNeg < mN M a then k (mI M a i.toNatClampNeg) else none
theorem lZ_inv {M : PM} {a : Nat} {i : Int32} {k : Int32 → qO} {r : qRs × PM} (h : lZ M a i k = some r) : ∃ v, mK M a = 1 ∧ i = nI i.toNatClampNeg ∧ i.toNatClampNeg < mN M a ∧ v = mI M a i.toNatClampNeg ∧ k v = some r := by
  unfold lZ at h
  split at h
  · rename_i h1
    exact ⟨_, h1.1, nI_of_nn h1.2.1, h1.2.2, rfl, h⟩
  · cases h
theorem lZ_eq {M : PM} {a j : Nat} {k : Int32 → qO} (h1 : mK M a = 1) (hj : j < mN M a) (hn : mN M a < 2 ^ 31) : lZ M a (nI j) k = k (mI M a j) := by
  unfold lZ
  rw [nI_clamp (Nat.lt_trans hj hn), if_pos ⟨h1, nI_pos (Nat.lt_trans hj hn), hj⟩]
def lL (M : PM) (a : Nat) (i : Int32) (k : Int64 → qO) : qO := if mK M a = 2 ∧ ¬ i < 0 ∧ i.toNatClampNeg < mN M a then k (mL M a i.toNatClampNeg) else none
theorem lL_inv {M : PM} {a : Nat} {i : Int32} {k : Int64 → qO} {r : qRs × PM} (h : lL M a i k = some r) : ∃ v, mK M a = 2 ∧ i = nI i.toNatClampNeg ∧ i.toNatClampNeg < mN M a ∧ v = mL M a i.toNatClampNeg ∧ k v = some r := by
  unfold lL at h
  split at h
  · rename_i h1
    exact ⟨_, h1.1, nI_of_nn h1.2.1, h1.2.2, rfl, h⟩
  · cases h
theorem lL_eq {M : PM} {a j : Nat} {k : Int64 → qO} (h1 : mK M a = 2) (hj : j < mN M a) (hn : mN M a < 2 ^ 31) : lL M a (nI j) k = k (mL M a j) := by
  unfold lL
  rw [nI_clamp (Nat.lt_trans hj hn), if_pos ⟨h1, nI_pos (Nat.lt_trans hj hn), hj⟩]
def wI (M : PM) (a : Nat) (i : Int32) (v : Int32) (k : PM → qO) : qO := if mK M a = 0 ∧ ¬ i < 0 ∧ i.toNatClampNeg < mN M a then k (sI M a i.toNatClampNeg v) else none
theorem wI_inv {M : PM} {a : Nat} {i : Int32} {v : Int32} {k : PM → qO} {r : qRs × PM} (h : wI M a i v k = some r) : ∃ M1, mK M a = 0 ∧ i = nI i.toNatClampNeg ∧ i.toNatClampNeg < mN M a ∧ M1 = sI M a i.toNatClampNeg v ∧ k M1 = some r := by
  unfold wI at h
  split at h
  · rename_i h1
    exact ⟨_, h1.1, nI_of_nn h1.2.1, h1.2.2, rfl, h⟩
  · cases h
theorem wI_eq {M : PM} {a j : Nat} {v : Int32} {k : PM → qO} (h1 : mK M a = 0) (hj : j < mN M a) (hn : mN M a < 2 ^ 31) : wI M a (nI j) v k = k (sI M a j v) := by
  unfold wI
  rw [nI_clamp (Nat.lt_trans hj hn), if_pos ⟨h1, nI_pos (Nat.lt_trans hj hn), hj⟩]
def wZ (M : PM) (a : Nat) (i : Int32) (v : Int32) (k : PM → qO) : qO := if mK M a = 1 ∧ ¬ i < 0 ∧ i.toNatClampNeg < mN M a then k (sI M a i.toNatClampNeg (vp_nar .boolean v)) else none
theorem wZ_inv {M : PM} {a : Nat} {i : Int32} {v : Int32} {k : PM → qO} {r : qRs × PM} (h : wZ M a i v k = some r) : ∃ M1, mK M a = 1 ∧ i = nI i.toNatClampNeg ∧ i.toNatClampNeg < mN M a ∧ M1 = sI M a i.toNatClampNeg (vp_nar .boolean v) ∧ k M1 = some r := by
  unfold wZ at h
  split at h
  · rename_i h1
    exact ⟨_, h1.1, nI_of_nn h1.2.1, h1.2.2, rfl, h⟩
  · cases h
theorem wZ_eq {M : PM} {a j : Nat} {v : Int32} {k : PM → qO} (h1 : mK M a = 1) (hj : j < mN M a) (hn : mN M a < 2 ^ 31) : wZ M a (nI j) v k = k (sI M a j (vp_nar .boolean v)) := by
  unfold wZ
  rw [nI_clamp (Nat.lt_trans hj hn), if_pos ⟨h1, nI_pos (Nat.lt_trans hj hn), hj⟩]
def wL (M : PM) (a : Nat) (i : Int32) (v : Int64) (k : PM → qO) : qO := if mK M a = 2 ∧ ¬ i < 0 ∧ i.toNatClampNeg < mN M a then k (sL M a i.toNatClampNeg v) else none
theorem wL_inv {M : PM} {a : Nat} {i : Int32} {v : Int64} {k : PM → qO} {r : qRs × PM} (h : wL M a i v k = some r) : ∃ M1, mK M a = 2 ∧ i = nI i.toNatClampNeg ∧ i.toNatClampNeg < mN M a ∧ M1 = sL M a i.toNatClampNeg v ∧ k M1 = some r := by
  unfold wL at h
  split at h
  · rename_i h1
    exact ⟨_, h1.1, nI_of_nn h1.2.1, h1.2.2, rfl, h⟩
  · cases h
theorem wL_eq {M : PM} {a j : Nat} {v : Int64} {k : PM → qO} (h1 : mK M a = 2) (hj : j < mN M a) (hn : mN M a < 2 ^ 31) : wL M a (nI j) v k = k (sL M a j v) := by
  unfold wL
  rw [nI_clamp (Nat.lt_trans hj hn), if_pos ⟨h1, nI_pos (Nat.lt_trans hj hn), hj⟩]
/-- behind a call that answers; one that may throw -/
def cI (x : qO) (k : Int32 → PM → qO) : qO := match x with
  | some (.inl (some (.int v)), M) => k v M
  | _ => none
theorem cI_inv {x : qO} {k : Int32 → PM → qO} {r : qRs × PM} (h : cI x k = some r) : ∃ v M, x = some (.inl (some (.int v)), M) ∧ k v M = some r := by
  unfold cI at h
  split at h
  · rename_i v M
    exact ⟨v, M, rfl, h⟩
  · cases h
def tI (x : qO) (k : Int32 → PM → qO) : qO := match x with
  | some (.inl (some (.int v)), M) => k v M
  | some (.inr E, M) => some (.inr E, M)
  | _ => none
theorem tI_inv {x : qO} {k : Int32 → PM → qO} {r : qRs × PM} (h : tI x k = some r) : (∃ v M, x = some (.inl (some (.int v)), M) ∧ k v M = some r) ∨ ∃ E M, x = some (.inr E, M) ∧ r = (.inr E, M) := by
  unfold tI at h
  split at h
  · rename_i v M
    exact Or.inl ⟨v, M, rfl, h⟩
  · rename_i E M
    exact Or.inr ⟨E, M, rfl, (Option.some.inj h).symm⟩
  · cases h
/-- behind a call that answers; one that may throw -/
def cL (x : qO) (k : Int64 → PM → qO) : qO := match x with
  | some (.inl (some (.long v)), M) => k v M
  | _ => none
theorem cL_inv {x : qO} {k : Int64 → PM → qO} {r : qRs × PM} (h : cL x k = some r) : ∃ v M, x = some (.inl (some (.long v)), M) ∧ k v M = some r := by
  unfold cL at h
  split at h
  · rename_i v M
    exact ⟨v, M, rfl, h⟩
  · cases h
def tL (x : qO) (k : Int64 → PM → qO) : qO := match x with
  | some (.inl (some (.long v)), M) => k v M
  | some (.inr E, M) => some (.inr E, M)
  | _ => none
theorem tL_inv {x : qO} {k : Int64 → PM → qO} {r : qRs × PM} (h : tL x k = some r) : (∃ v M, x = some (.inl (some (.long v)), M) ∧ k v M = some r) ∨ ∃ E M, x = some (.inr E, M) ∧ r = (.inr E, M) := by
  unfold tL at h
  split at h
  · rename_i v M
    exact Or.inl ⟨v, M, rfl, h⟩
  · rename_i E M
    exact Or.inr ⟨E, M, rfl, (Option.some.inj h).symm⟩
  · cases h
/-- behind a call that answers; one that may throw -/
def cR (x : qO) (k : Nat → PM → qO) : qO := match x with
  | some (.inl (some (.ref v)), M) => k v M
  | _ => none
theorem cR_inv {x : qO} {k : Nat → PM → qO} {r : qRs × PM} (h : cR x k = some r) : ∃ v M, x = some (.inl (some (.ref v)), M) ∧ k v M = some r := by
  unfold cR at h
  split at h
  · rename_i v M
    exact ⟨v, M, rfl, h⟩
  · cases h
def tR (x : qO) (k : Nat → PM → qO) : qO := match x with
  | some (.inl (some (.ref v)), M) => k v M
  | some (.inr E, M) => some (.inr E, M)
  | _ => none
theorem tR_inv {x : qO} {k : Nat → PM → qO} {r : qRs × PM} (h : tR x k = some r) : (∃ v M, x = some (.inl (some (.ref v)), M) ∧ k v M = some r) ∨ ∃ E M, x = some (.inr E, M) ∧ r = (.inr E, M) := by
  unfold tR at h
  split at h
  · rename_i v M
    exact Or.inl ⟨v, M, rfl, h⟩
  · rename_i E M
    exact Or.inr ⟨E, M, rfl, (Option.some.inj h).symm⟩
  · cases h
def mO (ci : Nat) (M : PM) (k : Nat → PM → qO) : qO := k (mS M) (nO M ci)
theorem mO_inv {ci : Nat} {M : PM} {k : Nat → PM → qO} {r : qRs × PM} (h : mO ci M k = some r) : ∃ q M1, q = mS M ∧ M1 = nO M ci ∧ k q M1 = some r := ⟨_, _, rfl, rfl, h⟩
def bI (v : Int32) (k : Int32 → qO) : qO := k v
theorem bI_inv {v : Int32} {k : Int32 → qO} {r : qRs × PM} (h : bI v k = some r) : ∃ x, x = v ∧ k x = some r := ⟨_, rfl, h⟩
def bL (v : Int64) (k : Int64 → qO) : qO := k v
theorem bL_inv {v : Int64} {k : Int64 → qO} {r : qRs × PM} (h : bL v k = some r) : ∃ x, x = v ∧ k x = some r := ⟨_, rfl, h⟩
def rZ (v : Int32) (M : PM) : qO := if v = 0 ∨ v = 1 then some (.inl (some (.int v)), M) else none
theorem rZ_inv {v : Int32} {M : PM} {r : qRs × PM} (h : rZ v M = some r) : narrow .boolean (.int v) = .int v ∧ some (.inl (some (.int v)), M) = some r := by
  unfold rZ at h
  split at h
  · rename_i h1
    refine ⟨?_, h⟩
    rcases h1 with e | e <;> (rw [e]; rfl)
  · cases h
def cV (x : qO) (k : PM → qO) : qO := match x with
  | some (.inl none, M) => k M
  | _ => none
theorem cV_inv {x : qO} {k : PM → qO} {r : qRs × PM} (h : cV x k = some r) : ∃ M, x = some (.inl none, M) ∧ k M = some r := by
  unfold cV at h
  split at h
  · rename_i M
    exact ⟨M, rfl, h⟩
  · cases h
def xI (x : qO) (hs : List (String × Int32)) (k : Int32 → PM → qO) : qO := match x with
  | some (.inl (some (.int v)), M) => k v M
  | some (.inr E, M) => match hs.find? (fun q => q.1 == E) with
    | some q => some (.inl (some (.int q.2)), M)
    | none => none
  | _ => none
theorem xI_inv {x : qO} {hs : List (String × Int32)} {k : Int32 → PM → qO} {r : qRs × PM} (h : xI x hs k = some r) : (∃ v M, x = some (.inl (some (.int v)), M) ∧ k v M = some r) ∨ (∃ E w M, x = some (.inr E, M) ∧ (E, w) ∈ hs ∧ r = (.inl (some (.int w)), M)) := by
  unfold xI at h
  split at h
  · rename_i v M; exact Or.inl ⟨v, M, rfl, h⟩
  · rename_i E M
    split at h
    · rename_i q hq
      have h1 := List.find?_some hq
      have h2 := List.mem_of_find?_eq_some hq
      have h3 : q.1 = E := eq_of_beq h1
      subst h3
      exact Or.inr ⟨q.1, q.2, M, rfl, h2, (Option.some.inj h).symm⟩
    · cases h
  · cases h
def tV (x : qO) (k : PM → qO) : qO := match x with
  | some (.inl none, M) => k M
  | some (.inr E, M) => some (.inr E, M)
  | _ => none
theorem tV_inv {x : qO} {k : PM → qO} {r : qRs × PM} (h : tV x k = some r) : (∃ M, x = some (.inl none, M) ∧ k M = some r) ∨ ∃ E M, x = some (.inr E, M) ∧ r = (.inr E, M) := by
  unfold tV at h
  split at h
  · rename_i M
    exact Or.inl ⟨M, rfl, h⟩
  · rename_i E M
    exact Or.inr ⟨E, M, rfl, (Option.some.inj h).symm⟩
  · cases h
def qMath_max (own : String) (ix : Nat) : Prop := Cond.methodLink own ix Lib.Math.max.name ∈ qTT ∧ Cond.static Lib.Math.max.name ∈ qTT ∧ Cond.initialized "java/lang/Math" ∈ qTT ∧ ((Lib.Math.max.name, Lib.Math.max.code, 2, some .int) : qY) ∈ qMs
def qMath_min (own : String) (ix : Nat) : Prop := Cond.methodLink own ix Lib.Math.min.name ∈ qTT ∧ Cond.static Lib.Math.min.name ∈ qTT ∧ Cond.initialized "java/lang/Math" ∈ qTT ∧ ((Lib.Math.min.name, Lib.Math.min.code, 2, some .int) : qY) ∈ qMs
section EWX
variable {Y : qY} {g : qG} {X : qX} {Z : qZ} {pc : Nat} {L L' : List (Nat × Value)} {st : List Value} {M : PM}
theorem ew_aL {a : Nat} {v : Int32} (hd : decode Y.2.1 pc = .ok (.arraylength, 1)) (hk : mK M a < 3) (hv : v = nI (mN M a)) (k : EW Y g X Z (pc + 1) L (.int v :: st) M) : EW Y g X Z pc L (.ref a :: st) M := ew_alen hd hk (hv ▸ k)
theorem ew_mmax {ix : Nat} {x y v : Int32} (hd : decode Y.2.1 pc = .ok (.invokestatic ix, 3)) (hc : qMath_max Y.1.cls ix) (hv : v = if x < y then y else x) (hfr : 1 ≤ zn Z) (hlo : (st.map fun v => v.category).sum + 13 ≤ zl Z) (k : EW Y g X Z (pc + 3) L (.int v :: st) M) : EW Y g X Z pc L (.int y :: .int x :: st) M := by
  subst hv
  refine ⟨k.1, fun ok ad H locs cells slots ls I hs => ?_⟩
  obtain ⟨hx, hb, hml, hown, hr, hlk, hEx, hnm, hst, hF, hg0, hfr0, hlo0, hRc, hRs⟩ := id ok
  obtain ⟨h1, h2, h3, h4⟩ := hc
  have c1 := I.2.2.2.2.2.2.1
  have c2 := I.2.2.2.2.2.2.2
  have d2 := k.1
  exact va_mmax hx hb (hml.trans I.2.2.2.2.2.1.1.symm) hown (hF.word h1 _) (hF.word h2 _) (hF.word h3 _) (qF.code hF h4 _) (Nat.le_trans hfr hfr0) (by rw [rS_cat]; omega) (by omega) (by omega) hd (k.2 ok ad H locs cells slots ls I ⟨trivial, hs.2.2⟩)
theorem ew_mmin {ix : Nat} {x y v : Int32} (hd : decode Y.2.1 pc = .ok (.invokestatic ix, 3)) (hc : qMath_min Y.1.cls ix) (hv : v = if y < x then y else x) (hfr : 1 ≤ zn Z) (hlo : (st.map fun v => v.category).sum + 13 ≤ zl Z) (k : EW Y g X Z (pc + 3) L (.int v :: st) M) : EW Y g X Z pc L (.int y :: .int x :: st) M := by
  subst hv
  refine ⟨k.1, fun ok ad H locs cells slots ls I hs => ?_⟩
  obtain ⟨hx, hb, hml, hown, hr, hlk, hEx, hnm, hst, hF, hg0, hfr0, hlo0, hRc, hRs⟩ := id ok
  obtain ⟨h1, h2, h3, h4⟩ := hc
  have c1 := I.2.2.2.2.2.2.1
  have c2 := I.2.2.2.2.2.2.2
  have d2 := k.1
  exact va_mmin hx hb (hml.trans I.2.2.2.2.2.1.1.symm) hown (hF.word h1 _) (hF.word h2 _) (hF.word h3 _) (qF.code hF h4 _) (Nat.le_trans hfr hfr0) (by rw [rS_cat]; omega) (by omega) (by omega) hd (k.2 ok ad H locs cells slots ls I ⟨trivial, hs.2.2⟩)
theorem ew_topI {x v : Int32} (e : v = x) (k : EW Y g X Z pc L (.int v :: st) M) : EW Y g X Z pc L (.int x :: st) M := e ▸ k
theorem ew_topL {x v : Int64} (e : v = x) (k : EW Y g X Z pc L (.long v :: st) M) : EW Y g X Z pc L (.long x :: st) M := e ▸ k
theorem ew_gI {ix a : Nat} {fin : Bool} {v : Int32} (ci kk : Nat) (hd : decode Y.2.1 pc = .ok (.getfield ix, 3)) (hf : qFl Y.1.cls ix ci kk fin) (hk : mK M a = ci + 3) (hv : mF M a kk = .int v) (k : EW Y g X Z (pc + 3) L (.int v :: st) M) : EW Y g X Z pc L (.ref a :: st) M := ew_getfield ci kk hd hf hk (by rw [hv]; exact k)
theorem ew_gJ {ix a : Nat} {fin : Bool} {v : Int64} (ci kk : Nat) (hd : decode Y.2.1 pc = .ok (.getfield ix, 3)) (hf : qFl Y.1.cls ix ci kk fin) (hk : mK M a = ci + 3) (hv : mF M a kk = .long v) (k : EW Y g X Z (pc + 3) L (.long v :: st) M) : EW Y g X Z pc L (.ref a :: st) M := ew_getfield ci kk hd hf hk (by rw [hv]; exact k)
theorem ew_gR {ix a : Nat} {fin : Bool} {v : Nat} (ci kk : Nat) (hd : decode Y.2.1 pc = .ok (.getfield ix, 3)) (hf : qFl Y.1.cls ix ci kk fin) (hk : mK M a = ci + 3) (hv : mF M a kk = .ref v) (k : EW Y g X Z (pc + 3) L (.ref v :: st) M) : EW Y g X Z pc L (.ref a :: st) M := ew_getfield ci kk hd hf hk (by rw [hv]; exact k)
theorem ew_lI {a : Nat} {i : Int32} {v : Int32} (hd : decode Y.2.1 pc = .ok (.iaload, 1)) (hk : mK M a = 0) (hi : i = nI i.toNatClampNeg) (hj : i.toNatClampNeg < mN M a) (hv : v = mI M a i.toNatClampNeg) (k : EW Y g X Z (pc + 1) L (.int v :: st) M) : EW Y g X Z pc L (.int i :: .ref a :: st) M := ew_iaload _ hd hk hi hj (hv ▸ k)
theorem ew_lZ {a : Nat} {i : Int32} {v : Int32} (hd : decode Y.2.1 pc = .ok (.baload, 1)) (hk : mK M a = 1) (hi : i = nI i.toNatClampNeg) (hj : i.toNatClampNeg < mN M a) (hv : v = mI M a i.toNatClampNeg) (k : EW Y g X Z (pc + 1) L (.int v :: st) M) : EW Y g X Z pc L (.int i :: .ref a :: st) M := ew_zaload _ hd hk hi hj (hv ▸ k)
theorem ew_lL {a : Nat} {i : Int32} {v : Int64} (hd : decode Y.2.1 pc = .ok (.laload, 1)) (hk : mK M a = 2) (hi : i = nI i.toNatClampNeg) (hj : i.toNatClampNeg < mN M a) (hv : v = mL M a i.toNatClampNeg) (k : EW Y g X Z (pc + 1) L (.long v :: st) M) : EW Y g X Z pc L (.int i :: .ref a :: st) M := ew_laload _ hd hk hi hj (hv ▸ k)
theorem ew_wI {a : Nat} {i : Int32} {x : Int32} {M1 : PM} (hd : decode Y.2.1 pc = .ok (.iastore, 1)) (hk : mK M a = 0) (hi : i = nI i.toNatClampNeg) (hj : i.toNatClampNeg < mN M a) (hv : M1 = sI M a i.toNatClampNeg x) (k : EW Y g X Z (pc + 1) L st M1) : EW Y g X Z pc L (.int x :: .int i :: .ref a :: st) M := ew_iastore _ hd hk hi hj (hv ▸ k)
theorem ew_wZ {a : Nat} {i : Int32} {x : Int32} {M1 : PM} (hd : decode Y.2.1 pc = .ok (.bastore, 1)) (hk : mK M a = 1) (hi : i = nI i.toNatClampNeg) (hj : i.toNatClampNeg < mN M a) (hv : M1 = sI M a i.toNatClampNeg (vp_nar .boolean x)) (k : EW Y g X Z (pc + 1) L st M1) : EW Y g X Z pc L (.int x :: .int i :: .ref a :: st) M := ew_zastore _ hd hk hi hj (hv ▸ k)
theorem ew_wL {a : Nat} {i : Int32} {x : Int64} {M1 : PM} (hd : decode Y.2.1 pc = .ok (.lastore, 1)) (hk : mK M a = 2) (hi : i = nI i.toNatClampNeg) (hj : i.toNatClampNeg < mN M a) (hv : M1 = sL M a i.toNatClampNeg x) (k : EW Y g X Z (pc + 1) L st M1) : EW Y g X Z pc L (.long x :: .int i :: .ref a :: st) M := ew_lastore _ hd hk hi hj (hv ▸ k)
theorem ew_mA0 {i : Int32} {q : Nat} {M1 : PM} (hd : decode Y.2.1 pc = .ok (.newarray .int, 2)) (hi : i = nI i.toNatClampNeg) (hn : i.toNatClampNeg ≤ 67108864) (hq : q = mS M) (hM : M1 = nA M 0 i.toNatClampNeg) (k : EW Y g X Z (pc + 2) L (.ref q :: st) M1) : EW Y g X Z pc L (.int i :: st) M := by
  subst hq; subst hM
  exact ew_newarray_i _ hd hi hn k
theorem ew_mA1 {i : Int32} {q : Nat} {M1 : PM} (hd : decode Y.2.1 pc = .ok (.newarray .boolean, 2)) (hi : i = nI i.toNatClampNeg) (hn : i.toNatClampNeg ≤ 67108864) (hq : q = mS M) (hM : M1 = nA M 1 i.toNatClampNeg) (k : EW Y g X Z (pc + 2) L (.ref q :: st) M1) : EW Y g X Z pc L (.int i :: st) M := by
  subst hq; subst hM
  exact ew_newarray_z _ hd hi hn k
theorem ew_mA2 {i : Int32} {q : Nat} {M1 : PM} (hd : decode Y.2.1 pc = .ok (.newarray .long, 2)) (hi : i = nI i.toNatClampNeg) (hn : i.toNatClampNeg ≤ 67108864) (hq : q = mS M) (hM : M1 = nA M 2 i.toNatClampNeg) (k : EW Y g X Z (pc + 2) L (.ref q :: st) M1) : EW Y g X Z pc L (.int i :: st) M := by
  subst hq; subst hM
  exact ew_newarray_l _ hd hi hn k
theorem ew_mO {ix q : Nat} {M1 : PM} (ci : Nat) (hd : decode Y.2.1 pc = .ok (.new ix, 3)) (hf : qNw Y.1.cls ix ci) (hq : q = mS M) (hM : M1 = nO M ci) (k : EW Y g X Z (pc + 3) L (.ref q :: st) M1) : EW Y g X Z pc L st M := by
  subst hq; subst hM
  exact ew_new ci hd hf k
theorem ew_pF {ix a : Nat} {v : Value} {M1 : PM} (ci kk : Nat) (hd : decode Y.2.1 pc = .ok (.putfield ix, 3)) (hf : qFl Y.1.cls ix ci kk false) (hk : mK M a = ci + 3) (hM : M1 = sF M a kk v) (hfit : ∀ ad, narrow (qTy ci kk) (rV g ad v) = rV g ad v ∧ fits (qTy ci kk) (rV g ad v) = true) (k : EW Y g X Z (pc + 3) L st M1) : EW Y g X Z pc L (v :: .ref a :: st) M := by
  subst hM
  exact ew_putfield ci kk hd hf hk hfit k
theorem ew_pFF {ix a : Nat} {v : Value} {M1 : PM} (ci kk : Nat) (hd : decode Y.2.1 pc = .ok (.putfield ix, 3)) (hf : qFl Y.1.cls ix ci kk true) (hi : Y.1.name = "<init>") (hoc : ((qCl.getD ci ("", fun _ => ("", "", "", false), 0)).2.1 kk).1 = Y.1.cls) (hk : mK M a = ci + 3) (hM : M1 = sF M a kk v) (hfit : ∀ ad, narrow (qTy ci kk) (rV g ad v) = rV g ad v ∧ fits (qTy ci kk) (rV g ad v) = true) (k : EW Y g X Z (pc + 3) L st M1) : EW Y g X Z pc L (v :: .ref a :: st) M := by
  subst hM
  exact ew_putfieldF ci kk hd hf hi hoc hk hfit k
end EWX
