/-! THE NAMES OF ALL -/
def nmOf (o : Nat) : Nat → aL' → List (Nat × Nat × Nat × Nat)
  | _, [] => []
  | b, t :: ts => (o, t.2.2, b, t.2.1) :: nmOf o (b + 1) ts
def nm : List (Nat × Nat × Nat × Nat) := nmOf 2 3 (aN 300 256) ++ (nmOf 1 10 aC ++ (nmOf 15 16 [(0, 16, 0)] ++ (nmOf 18 19 (aN 5732 2048) ++ (nmOf 26 27 aQ ++ (nmOf 31 32 aW ++ (nmOf 30 35 aS ++ (nmOf 17 42 aP ++ nmOf 46 47 aR)))))))
def clX : List (Nat × Nat) := [(0, 2), (1, 3), (2, 4), (15, 5), (17, 7), (18, 4), (26, 8), (30, 9), (31, 6), (46, 1)]
def lkX : List (Nat × Nat × Nat) := [(0, 0, 1), (0, 1, 15), (0, 2, 17), (1, 0, 2), (17, 0, 18), (17, 1, 26), (17, 2, 30), (30, 0, 18), (30, 1, 26), (30, 2, 31), (31, 0, 18)]
def OF : qOb9 := (fun o => ((clX.find? (fun t => t.1 == o)).map (fun t => t.2)).getD 0, fun o j => ((lkX.find? (fun t => t.1 == o && t.2.1 == j)).map (fun t => t.2.2)).getD 0, fun o j => ((nm.find? (fun t => t.1 == o && t.2.1 == j)).map (fun t => t.2.2.1)).getD 0, fun o j => ((nm.find? (fun t => t.1 == o && t.2.1 == j)).map (fun t => t.2.2.2)).getD 0)
theorem OF_C {o ci : Nat} (h : oC OF o = ci + 1) : (o, ci + 1) ∈ clX := by
  have h' : ((clX.find? (fun t => t.1 == o)).map (fun t => t.2)).getD 0 = ci + 1 := h
  cases e : clX.find? (fun t => t.1 == o) with
  | none =>
    rw [e] at h'
    have : (0 : Nat) = ci + 1 := h'
    omega
  | some t =>
    rw [e] at h'
    have h2 : t.2 = ci + 1 := h'
    have h3 := List.mem_of_find?_eq_some e
    have h4 : (t.1 == o) = true := List.find?_some (p := fun t : Nat × Nat => t.1 == o) e
    have h5 : t.1 = o := eq_of_beq h4
    rw [← h2, ← h5]
    exact h3
theorem OF_A (o j : Nat) : oA OF o j ≤ 68 := by
  have h' : oA OF o j = ((nm.find? (fun t => t.1 == o && t.2.1 == j)).map (fun t => t.2.2.1)).getD 0 := rfl
  rw [h']
  cases e : nm.find? (fun t => t.1 == o && t.2.1 == j) with
  | none => exact Nat.zero_le _
  | some t =>
    have h3 := List.mem_of_find?_eq_some e
    have key : ∀ t ∈ nm, t.2.2.1 ≤ 68 := by decide
    exact key t h3
theorem qKd_lo {ci j : Nat} (h : qKd ci j < 5) : j < qNf ci := by
  by_cases z : j < qNf ci
  · exact z
  · rw [qKd_hi z] at h; omega
theorem OF_ok : okO OF := by
  have k1 : ∀ t ∈ clX, ∀ j, j < qNf (t.2 - 1) → qKd (t.2 - 1) j < 3 → ∃ y ∈ nm, y.1 = t.1 ∧ y.2.1 = j ∧ y.2.2.1 = oA OF t.1 j := by decide +kernel
  have k2 : ∀ t ∈ nm, ∀ y ∈ nm, t.2.2.1 = y.2.2.1 → t.1 = y.1 ∧ t.2.1 = y.2.1 := by decide +kernel
  intro o ci j o' ci' j' h h' hj hj' e
  obtain ⟨y, hy, y1, y2, y3⟩ := k1 _ (OF_C h) j (qKd_lo (ci := ci) (by omega)) hj
  obtain ⟨z, hz, z1, z2, z3⟩ := k1 _ (OF_C h') j' (qKd_lo (ci := ci') (by omega)) hj'
  have y3' : y.2.2.1 = oA OF o j := y3
  have z3' : z.2.2.1 = oA OF o' j' := z3
  obtain ⟨a, b⟩ := k2 y hy z hz (by rw [y3', z3', e])
  have y1' : y.1 = o := y1
  have z1' : z.1 = o' := z1
  exact ⟨by rw [← y1', ← z1', a], by rw [← y2, ← z2, b]⟩
theorem OF_Nd2 : NdO OF 2 300 256 := by
  refine ⟨rfl, fun j hj => ?_, rfl, by decide, Or.inl rfl⟩
  have key : ∀ j, j < 7 → (j < 5 ∨ j = 6) → oN OF 2 j = 300 := by decide
  exact key j (by omega) hj
theorem OF_Nd18 : NdO OF 18 5732 2048 := by
  refine ⟨rfl, fun j hj => ?_, rfl, by decide, Or.inr rfl⟩
  have key : ∀ j, j < 7 → (j < 5 ∨ j = 6) → oN OF 18 j = 5732 := by decide
  exact key j (by omega) hj
theorem OF_Cl : ClO OF 0 1 15 17 2 18 26 30 31 := ⟨⟨rfl, rfl, rfl, rfl, rfl, rfl, rfl⟩, ⟨rfl, rfl, rfl, rfl, rfl, rfl, rfl, rfl, rfl, rfl, rfl⟩, ⟨OF_Nd2, OF_Nd18, by decide⟩, ⟨rfl, rfl, rfl, rfl, rfl, rfl⟩, ⟨rfl, rfl, rfl, rfl⟩, ⟨rfl, rfl, rfl⟩, ⟨rfl, rfl, rfl, rfl, rfl, rfl, rfl⟩, ⟨rfl, rfl, rfl⟩⟩
theorem OF_Rf : Ref OF 46 := by
  refine ⟨rfl, fun j hj => ?_⟩
  have key : ∀ j, j < 36 → qKd 0 j < 3 → oN OF 46 j = refN j := by decide +kernel
  exact key j (qKd_lo (ci := 0) (by omega)) hj
/-- what a memory says, by name -/
def vI : Value → Int32
  | .int v => v
  | _ => 0
def SM (O : qOb9) (M : PM) : qS := (fun o j i => if qKd (oC O o - 1) j = 4 then vI (mF M o j) else mI M (oA O o j) i, fun o j i => mL M (oA O o j) i)
def isI : Value → Bool
  | .int _ => true
  | _ => false
def isR (a : Nat) : Value → Bool
  | .ref b => b == a
  | _ => false
theorem isI_eq {v : Value} (h : isI v = true) : v = .int (vI v) := by
  cases v <;> first | rfl | cases h
theorem isR_eq {v : Value} {a : Nat} (h : isR a v = true) : v = .ref a := by
  cases v with
  | ref b => exact congrArg Value.ref (eq_of_beq h)
  | _ => cases h
def chk (al : aL') (o ci : Nat) (F : Nat → Value) (j : Nat) : Bool := if qKd ci j = 4 then isI (F j) else if qKd ci j = 3 then isR (oR OF o j) (F j) else if qKd ci j < 3 then isR (oA OF o j) (F j) && decide ((oA OF o j, qKd ci j, oN OF o j) ∈ al) else true
theorem Rp_one {M : PM} {al : aL'} {o ci : Nat} {F : Nat → Value} (hC : oC OF o = ci + 1) (hK : mK M o = ci + 3) (hF : mF M o = F) (ha : ∀ t ∈ al, mK M t.1 = t.2.1 ∧ mN M t.1 = t.2.2) (hc : ∀ j, j < qNf ci → chk al o ci F j = true) : mK M o = ci + 3 ∧ ∀ j,
    (qKd ci j = 4 → mF M o j = .int ((SM OF M).1 o j 0)) ∧ (qKd ci j = 3 → mF M o j = .ref (oR OF o j)) ∧
    (qKd ci j < 3 → mF M o j = .ref (oA OF o j) ∧ mK M (oA OF o j) = qKd ci j ∧ mN M (oA OF o j) = oN OF o j ∧ (∀ i, mI M (oA OF o j) i = (SM OF M).1 o j i) ∧ ∀ i, mL M (oA OF o j) i = (SM OF M).2 o j i) := by
  refine ⟨hK, fun j => ?_⟩
  have e1 : oC OF o - 1 = ci := by omega
  refine ⟨fun q => ?_, fun q => ?_, fun q => ?_⟩
  · have h := hc j (qKd_lo (by omega))
    unfold chk at h
    rw [if_pos q, ← hF] at h
    show mF M o j = .int (if qKd (oC OF o - 1) j = 4 then vI (mF M o j) else mI M (oA OF o j) 0)
    rw [e1, if_pos q]
    exact isI_eq h
  · have h := hc j (qKd_lo (by omega))
    unfold chk at h
    rw [if_neg (by omega), if_pos q, ← hF] at h
    exact isR_eq h
  · have h := hc j (qKd_lo (by omega))
    unfold chk at h
    rw [if_neg (by omega), if_neg (by omega), if_pos q, ← hF, Bool.and_eq_true] at h
    obtain ⟨b1, b2⟩ := ha _ (of_decide_eq_true h.2)
    refine ⟨isR_eq h.1, b1, b2, fun i => ?_, fun i => rfl⟩
    show mI M (oA OF o j) i = if qKd (oC OF o - 1) j = 4 then vI (mF M o j) else mI M (oA OF o j) i
    rw [e1, if_neg (by omega)]
/-- the start: both sides hold the same -/
theorem start_ok {n : Nat} (hn : 7000 ≤ n) : ∃ M6 S2, (∀ k : Nat → Nat → PM → qO, mO 1 qM0 (fun q1 M2 => cV (F_X_init n q1 M2) (fun M3 => mO 0 M3 (fun q4 M5 => cV (F_XModel_init n q4 M5) (fun M6 => k q1 q4 M6)))) = k 0 46 M6) ∧ Rp OF M6 S2 ∧ JE OF 0 1 15 17 2 18 26 30 31 46 S2 ∧ mS M6 = 69 ∧ mC M6 = 69 ∧ mT M6 ≤ 200000 := by
  obtain ⟨M5, Md, S1, e0, hk46, R5, cs, rw3, kf, lo, rw', s69, c69, tle⟩ := init_R hn
  -- the face
  have R1 : Rp O1 Md S1 := Rp_Kp R5 (fun o ci hc => by
    obtain ⟨rfl, _⟩ := O1_C hc
    exact kf 2 (by decide) (by decide)) (fun o ci j hc hj => by
    obtain ⟨rfl, rfl⟩ := O1_C hc
    have key : ∀ j, j < 8 → 2 ≤ fCell j ∧ fCell j ≤ 9 := by decide
    have hj8 := qKd_lo (ci := 3) (j := j) (by omega)
    rw [qNf_3] at hj8
    exact kf (fCell j) (key j hj8).1 (key j hj8).2)
  obtain ⟨f1, f2⟩ := R1 2 3 rfl
  -- arrays
  have al : ∀ t ∈ arr 47 aR ++ asX, mK Md t.1 = t.2.1 ∧ mN Md t.1 = t.2.2 := fun t ht => by
    rcases List.mem_append.mp ht with y | y
    · have key : ∀ t ∈ arr 47 aR, t ∈ asR ∨ (47 ≤ t.1 ∧ t.1 ≤ 50 ∧ t.2.1 = 0 ∧ t.2.2 = 6400) := by decide
      rcases key t y with z | ⟨z1, z2, z3, z4⟩
      · have := (lo.2 t (List.mem_append.mpr (Or.inl z))).2
        exact ⟨this.1, this.2.1⟩
      · obtain ⟨b1, b2⟩ := rw'.1 t.1 z1 z2
        exact ⟨b1.trans z3.symm, b2.trans z4.symm⟩
    · have := (lo.2 t (List.mem_append.mpr (Or.inr y))).2
      exact ⟨this.1, this.2.1⟩
  have ob := fun o ci F (hm : (o, ci, F) ∈ ((46, 0, upF vR0 2 (.int 3)) :: osX : oL)) => lo.1 (o, ci, F) hm
  have oX := ob 0 1 vX (by simp [osX])
  have oP := ob 17 6 vP (by simp [osX])
  have oS := ob 30 8 vSe (by simp [osX])
  have oLn := ob 31 5 vL (by simp [osX])
  have oQ := ob 26 7 vQ (by simp [osX])
  have oW := ob 18 3 vW (by simp [osX])
  have oU := ob 15 4 vU (by simp [osX])
  have oCr := ob 1 2 vC (by simp [osX])
  have oRf := ob 46 0 (upF vR0 2 (.int 3)) (by simp)
  have RF : Rp OF Md (SM OF Md) := by
    intro o ci hc
    have hm := OF_C hc
    have hm' : (o = 0 ∧ ci = 1) ∨ (o = 1 ∧ ci = 2) ∨ (o = 2 ∧ ci = 3) ∨ (o = 15 ∧ ci = 4) ∨ (o = 17 ∧ ci = 6) ∨ (o = 18 ∧ ci = 3) ∨ (o = 26 ∧ ci = 7) ∨ (o = 30 ∧ ci = 8) ∨ (o = 31 ∧ ci = 5) ∨ (o = 46 ∧ ci = 0) := by
      simp [clX] at hm
      omega
    rcases hm' with ⟨rfl, rfl⟩ | ⟨rfl, rfl⟩ | ⟨rfl, rfl⟩ | ⟨rfl, rfl⟩ | ⟨rfl, rfl⟩ | ⟨rfl, rfl⟩ | ⟨rfl, rfl⟩ | ⟨rfl, rfl⟩ | ⟨rfl, rfl⟩ | ⟨rfl, rfl⟩
    · exact Rp_one hc oX.2.1 oX.2.2 al (by decide +kernel)
    · exact Rp_one hc oCr.2.1 oCr.2.2 al (by decide +kernel)
    · refine ⟨f1, fun j => ⟨fun q => ?_, fun q => ?_, fun q => ?_⟩⟩
      · show mF Md 2 j = .int (if qKd 3 j = 4 then vI (mF Md 2 j) else mI Md (oA OF 2 j) 0)
        rw [if_pos q, (f2 j).1 q]; rfl
      · have key : ∀ j, j < 8 → ¬ qKd 3 j = 3 := by decide
        exact absurd q (key j (qKd_lo (ci := 3) (by omega)))
      · have key : ∀ j, j < 8 → qKd 3 j < 3 → oA OF 2 j = fCell j ∧ oN OF 2 j = oN O1 2 j := by decide
        obtain ⟨a1, a2⟩ := key j (qKd_lo (ci := 3) (by omega)) q
        obtain ⟨b1, b2, b3, b4, b5⟩ := (f2 j).2.2 q
        rw [a1, a2]
        refine ⟨b1, b2, b3, fun i => ?_, fun i => ?_⟩
        · show mI Md (fCell j) i = if qKd 3 j = 4 then vI (mF Md 2 j) else mI Md (oA OF 2 j) i
          rw [if_neg (by omega), a1]
        · show mL Md (fCell j) i = mL Md (oA OF 2 j) i
          rw [a1]
    · exact Rp_one hc oU.2.1 oU.2.2 al (by decide +kernel)
    · exact Rp_one hc oP.2.1 oP.2.2 al (by decide +kernel)
    · exact Rp_one hc oW.2.1 oW.2.2 al (by decide +kernel)
    · exact Rp_one hc oQ.2.1 oQ.2.2 al (by decide +kernel)
    · exact Rp_one hc oS.2.1 oS.2.2 al (by decide +kernel)
    · exact Rp_one hc oLn.2.1 oLn.2.2 al (by decide +kernel)
    · exact Rp_one hc oRf.2.1 oRf.2.2 al (by decide +kernel)
  -- fields that hold ints
  have iR : ∀ j (v : Int32), qKd 0 j = 4 → upF vR0 2 (.int 3) j = .int v → ∀ i, (SM OF Md).1 46 j i = v := fun j v h1 h2 i => by
    show (if qKd 0 j = 4 then vI (mF Md 46 j) else _) = v
    rw [if_pos h1, show mF Md 46 = upF vR0 2 (.int 3) from oRf.2.2, h2]; rfl
  have iC : ∀ j (v : Int32), qKd 2 j = 4 → vC j = .int v → ∀ i, (SM OF Md).1 1 j i = v := fun j v h1 h2 i => by
    show (if qKd 2 j = 4 then vI (mF Md 1 j) else _) = v
    rw [if_pos h1, show mF Md 1 = vC from oCr.2.2, h2]; rfl
  have iU : ∀ j (v : Int32), qKd 4 j = 4 → vU j = .int v → ∀ i, (SM OF Md).1 15 j i = v := fun j v h1 h2 i => by
    show (if qKd 4 j = 4 then vI (mF Md 15 j) else _) = v
    rw [if_pos h1, show mF Md 15 = vU from oU.2.2, h2]; rfl
  have zr : ∀ a kd len, (a, kd, len) ∈ asR ++ asX → ∀ i, mI Md a i = 0 := fun a kd len hm => (lo.2 (a, kd, len) hm).2.2.2.1
  obtain ⟨S2, eg, o2, s2, n2, _⟩ := ref_begin (O := OF) (r := 46) (n := n) (N := 3) (S := SM OF Md) OF_Rf (by decide) hn (iR 1 3 rfl rfl 0)
  obtain ⟨M6, ex, R6, F6⟩ := S_XModel_begin OF_ok (n := n) (l0 := 46) RF Fm.refl () S2 eg
  have F6' : Fm OF Md M6 := F6
  have ex' : F_XModel_begin n 46 Md = some (.inl none, M6) := ex
  have rj : ∀ j i, j ≠ 7 → j ≠ 8 → j ≠ 2 → S2.1 46 j i = (SM OF Md).1 46 j i := s2
  have ri : ∀ j (v : Int32), j ≠ 7 → j ≠ 8 → j ≠ 2 → qKd 0 j = 4 → upF vR0 2 (.int 3) j = .int v → ∀ i, S2.1 46 j i = v := fun j v a b d h1 h2 i => by rw [rj j i a b d]; exact iR j v h1 h2 i
  have rz : ∀ j a kd len, j ≠ 7 → j ≠ 8 → j ≠ 2 → ¬ qKd 0 j = 4 → oA OF 46 j = a → (a, kd, len) ∈ asR ++ asX → ∀ i, S2.1 46 j i = 0 := fun j a kd len b1 b2 b3 h1 h2 h3 i => by
    rw [rj j i b1 b2 b3]
    show (if qKd 0 j = 4 then _ else mI Md (oA OF 46 j) i) = 0
    rw [if_neg h1, h2]; exact zr a kd len h3 i
  have row : ∀ m, m < 3 → S2.1 46 3 m = nI m ∧ S2.1 46 4 m = -1 ∧ S2.1 46 5 m = -1 ∧ S2.1 46 6 m = -1 := fun m hm => by
    rw [rj 3 m (by decide) (by decide) (by decide), rj 4 m (by decide) (by decide) (by decide), rj 5 m (by decide) (by decide) (by decide), rj 6 m (by decide) (by decide) (by decide)]
    have q47 : (SM OF Md).1 46 3 m = mI Md 47 m := rfl
    have q48 : (SM OF Md).1 46 4 m = mI Md 48 m := rfl
    have q49 : (SM OF Md).1 46 5 m = mI Md 49 m := rfl
    have q50 : (SM OF Md).1 46 6 m = mI Md 50 m := rfl
    rw [q47, q48, q49, q50, rw'.2.1 m, rw'.2.2 48 (by decide) (by decide) m, rw'.2.2 49 (by decide) (by decide) m, rw'.2.2 50 (by decide) (by decide) m, if_pos hm, if_pos hm]
    exact ⟨rfl, rfl, rfl, rfl⟩
  have fj : ∀ j, j < 7 → S2.1 2 j = S1.1 2 j := fun j hj => by
    rw [o2.2 2 (by decide)]
    funext i
    have key : ∀ j, j < 7 → qKd 3 j < 3 ∧ oA OF 2 j = fCell j := by decide
    obtain ⟨a1, a2⟩ := key j hj
    show (if qKd 3 j = 4 then _ else mI Md (oA OF 2 j) i) = S1.1 2 j i
    rw [if_neg (by omega), a2]
    exact ((f2 j).2.2 a1).2.2.2.1 i
  have f7 : S2.1 2 7 0 = S1.1 2 7 0 := by
    rw [o2.2 2 (by decide)]
    show (if qKd 3 7 = 4 then vI (mF Md 2 7) else mI Md (oA OF 2 7) 0) = S1.1 2 7 0
    rw [if_pos (show qKd 3 7 = 4 from rfl), (f2 7).1 rfl]; rfl
  have cs2 : CS OF 2 300 256 S2 0 3 := by
    obtain ⟨_, y1, y2, y3, y4, y5⟩ := cs
    refine ⟨OF_Nd2, f7.trans y1, y2, ?_, ?_, ?_⟩
    · rw [fj 0 (by decide), fj 1 (by decide), fj 2 (by decide), fj 3 (by decide)]; exact y3
    · rw [fj 0 (by decide), fj 2 (by decide), fj 4 (by decide)]; exact y4
    · have er : rwH 256 (S2.1 2) = rwH 256 (S1.1 2) := by
        funext i
        unfold rwH
        rw [fj 0 (by decide), fj 1 (by decide), fj 2 (by decide), fj 3 (by decide)]
      unfold cChn at y5 ⊢
      rw [er, fj 5 (by decide), fj 6 (by decide)]; exact y5
  have frow : ∀ m, m < 3 → S2.1 2 0 m = nI m ∧ S2.1 2 1 m = -1 ∧ S2.1 2 2 m = -1 ∧ S2.1 2 3 m = -1 := fun m hm => by
    rw [fj 0 (by decide), fj 1 (by decide), fj 2 (by decide), fj 3 (by decide)]; exact rw3 m hm
  have c1 : ∀ j, S2.1 1 j = (SM OF Md).1 1 j := fun j => by rw [o2.2 1 (by decide)]
  have u1 : ∀ j, S2.1 15 j = (SM OF Md).1 15 j := fun j => by rw [o2.2 15 (by decide)]
  have kind : ∀ m, m < 3 → ¬ (nI m = (3 : Int32) ∨ nI m = (4 : Int32)) := fun m hm z => by
    rcases z with z | z
    · have := (nI_eq (a := m) (b := 3) (by omega) (by decide)).mp z; omega
    · have := (nI_eq (a := m) (b := 4) (by omega) (by decide)).mp z; omega
  have neg1 : pB (-1) := Or.inl (by decide)
  refine ⟨M6, S2, fun k => by rw [e0, ex']; rfl, R6, ⟨0, 3, 3, 0, fun _ => false, OF_Cl, OF_Rf, ?_, ?_, ⟨fun m hm => ?_, fun e he => absurd he (Nat.not_lt_zero e), fun e he => absurd he (Nat.not_lt_zero e), fun e he => absurd he (Nat.not_lt_zero e), fun k hk => absurd hk (Nat.not_lt_zero k)⟩, ⟨fun m => ?_, fun m => ?_⟩, ?_, ?_⟩, by rw [F6'.1]; exact s69, by rw [F6'.2.2.2.1]; exact c69, by rw [F6'.2.2.2.2.1]; exact tle⟩
  · refine ⟨⟨⟨ri 1 3 (by decide) (by decide) (by decide) rfl rfl 0, ri 9 0 (by decide) (by decide) (by decide) rfl rfl 0, by decide, by decide, ⟨Nat.le_refl 3, fun m hm => ?_, fun m m' hm hm' e _ _ _ => ?_⟩⟩, n2, Nat.le_refl 3, by decide, fun m hm => ?_, fun m => ?_⟩, fun e he => absurd he (Nat.not_lt_zero e), fun m hm hk => ?_, fun m m' e e' hmm hm' hk => ?_, fun e he => absurd he (Nat.not_lt_zero e), fun e => ?_, fun e => ?_, fun e _ => ⟨?_, ?_⟩, fun e he => absurd he (Nat.not_lt_zero e), ri 10 0 (by decide) (by decide) (by decide) rfl rfl 0, by decide, fun k hk => absurd hk (Nat.not_lt_zero k)⟩
    · exact Or.inl ⟨hm, row m hm⟩
    · rw [(row m hm).1, (row m' hm').1] at e
      exact (nI_eq (by omega) (by omega)).mp e
    · obtain ⟨_, y2, y3, y4⟩ := row m hm
      rw [y2, y3, y4]; exact ⟨neg1, neg1, neg1⟩
    · exact Or.inl (rz 21 63 1 6400 (by decide) (by decide) (by decide) (by decide) (by decide) (by decide) m)
    · rw [(row m hm).1] at hk
      exact absurd hk (kind m hm)
    · rw [(row m (by omega)).1] at hk
      exact absurd hk (kind m (by omega))
    · exact Or.inl (rz 13 55 1 16 (by decide) (by decide) (by decide) (by decide) (by decide) (by decide) e)
    · exact Or.inl (rz 15 57 1 16 (by decide) (by decide) (by decide) (by decide) (by decide) (by decide) e)
    · exact rz 13 55 1 16 (by decide) (by decide) (by decide) (by decide) (by decide) (by decide) e
    · exact rz 15 57 1 16 (by decide) (by decide) (by decide) (by decide) (by decide) (by decide) e
  · refine ⟨cs2, by decide, by rw [c1]; exact iC 6 0 rfl rfl 0, fun e he => absurd he (Nat.not_lt_zero e), fun m hm hk => ?_, fun e he => absurd he (Nat.not_lt_zero e), fun e he => absurd he (Nat.not_lt_zero e), by rw [c1]; exact iC 8 0 rfl rfl 0, by decide, fun k hk => absurd hk (Nat.not_lt_zero k)⟩
    rw [(frow m hm).1] at hk
    exact absurd hk (kind m hm)
  · obtain ⟨a1, a2, a3, a4⟩ := row m hm
    obtain ⟨b1, b2, b3, b4⟩ := frow m hm
    exact ⟨a1.trans b1.symm, a2.trans b2.symm, a3.trans b3.symm, a4.trans b4.symm⟩
  · rw [o2.2 17 (by decide)]
    have : (SM OF Md).1 17 3 m = mI Md 42 m := rfl
    rw [this]
    exact Or.inl (zr 42 1 5732 (by decide) m)
  · rw [c1]
    have : (SM OF Md).1 1 5 m = mI Md 14 m := rfl
    rw [this]
    exact Or.inl (zr 14 1 300 (by decide) m)
  · rw [c1]; exact iC 7 0 rfl rfl 0
  · refine ⟨?_, ?_, Or.inl ⟨?_, ri 31 0 (by decide) (by decide) (by decide) rfl rfl 0⟩⟩
    · rw [u1, iU 5 0 rfl rfl 0, ri 29 0 (by decide) (by decide) (by decide) rfl rfl 0]
    · rw [u1, iU 6 0 rfl rfl 0, ri 30 0 (by decide) (by decide) (by decide) rfl rfl 0]
    · rw [u1, iU 1 (-1) rfl rfl 0]; decide
/-- THE LAW HOLDS -/
theorem q_pure_ok : q_pure := by
  intro xs L hL
  obtain ⟨M6, S2, e0, R6, hJ, s69, c69, tle⟩ := start_ok (n := 3000000) (by decide)
  obtain ⟨⟨c1, c2, c3⟩, k8, ar8⟩ := nA_ok (M := M6) (kd := 2) (n := 1)
  have R8 : Rp OF (nA M6 2 1) S2 := Rp_Kp R6 (fun o ci hc => k8 o (by
    rw [s69]
    have key : ∀ t ∈ clX, t.1 < 69 := by decide
    exact key _ (OF_C hc))) (fun o ci j _ _ => k8 _ (by rw [s69]; have := OF_A o j; omega))
  have l8 : L3 (nA M6 2 1) 69 := by
    rw [s69] at ar8
    exact ⟨ar8.1, ar8.2.1⟩
  have h3 : Bes OF 69 := fun o ci j _ _ e => by have := OF_A o j; omega
  obtain ⟨Mf, g1, g2, g3⟩ := lw_loop (n := 3000000) OF_ok h3 (Nat.le_refl _) (xs := xs) hL 512 0 3000000 (nA M6 2 1) S2 (by omega) (by decide) (by decide) R8 l8 hJ
  refine ⟨3000000, Mf, ?_, by omega, by omega⟩
  unfold F_XLaw_law
  rw [e0 (fun q1 q4 M6 => mA 2 M6 (1 : Int32) (fun q7 M8 => F_XLaw_law_23 xs L 3000000 3000000 q1 q4 q7 (0 : Int32) M8))]
  unfold mA
  rw [if_pos (by decide), s69]
  exact g1
