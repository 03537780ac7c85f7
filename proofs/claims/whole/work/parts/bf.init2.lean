/-! ALL OF THE CLASS, AND THE REFERENCE -/
def vX : Nat → Value := upF (upF (upF (qDf 1) 0 (.ref 1)) 1 (.ref 15)) 2 (.ref 17)
def vC : Nat → Value := fA 10 aC (upF (qDf 2) 0 (.ref 2))
def vU : Nat → Value := upF (fA 16 [(0, 16, 0)] (qDf 4)) 1 (.int (-1))
def vW : Nat → Value := fA 19 (aN 5732 2048) (qDf 3)
def vQ : Nat → Value := fA 27 aQ (qDf 7)
def vL : Nat → Value := fA 32 aW (upF (qDf 5) 0 (.ref 18))
def vSe : Nat → Value := fA 35 aS (upF (upF (upF (qDf 8) 0 (.ref 18)) 1 (.ref 26)) 2 (.ref 31))
def vP : Nat → Value := fA 42 aP (upF (upF (upF (qDf 6) 0 (.ref 18)) 1 (.ref 26)) 2 (.ref 30))
def osX : oL := [(0, 1, vX), (17, 6, vP), (30, 8, vSe), (31, 5, vL), (26, 7, vQ), (18, 3, vW), (15, 4, vU), (1, 2, vC)]
def asX : aL' := arr 42 aP ++ (arr 35 aS ++ (arr 32 aW ++ (arr 27 aQ ++ (arr 19 (aN 5732 2048) ++ (arr 16 [(0, 16, 0)] ++ arr 10 aC)))))
theorem init_X {n : Nat} (hn : 7000 ≤ n) : ∃ M5 M' S1 ts, (∀ k, cV (F_X_init n 0 (nO qM0 1)) k = k M') ∧ Rp O1 M5 S1 ∧ CS O1 2 300 256 S1 0 3 ∧ (∀ m, m < 3 → rwI (S1.1 2) (nI m) (-1) (-1) (-1) m) ∧ St M5 M' osX asX 46 46 ts ∧ ts ≤ 80000 := by
  have l0 : Lo qM0 [] [] := ⟨fun t ht => absurd ht List.not_mem_nil, fun t ht => absurd ht List.not_mem_nil⟩
  have l1 : Lo (nO qM0 1) [(0, 1, qDf 1)] [] := Lo_nO (ci := 1) l0
  obtain ⟨M5, M6, S1, e6, R5, cs, rw3, h6⟩ := init_core hn (M := nO qM0 1) rfl l1
  have h7 : St M5 (sF M6 0 0 (.ref 1)) [(0, 1, upF (qDf 1) 0 (.ref 1)), (1, 2, vC)] (arr 10 aC) 15 _ _ := St_sF (j := 0) (v := .ref 1) (St_sub (os' := [(0, 1, qDf 1), (1, 2, vC)]) h6 (by simp [vC]) (fun _ h => h)) (by simp) (Or.inl (by decide))
  have g7 : ∀ k, pF 1 M6 0 0 (.ref 1) k = k (sF M6 0 0 (.ref 1)) := fun k => pF_at (F := qDf 1) h6.1 (by simp)
  generalize sF M6 0 0 (.ref 1) = M7 at h7 g7
  have h8 : St M5 (nO M7 4) [(15, 4, qDf 4), (0, 1, upF (qDf 1) 0 (.ref 1)), (1, 2, vC)] (arr 10 aC) 16 _ _ := St_nO h7 (by decide)
  obtain ⟨M9, e9, h9⟩ := St_mk [(0, 16, 0)] h8 (by decide) (by decide) (by simp) (Or.inr (by decide))
  have h10 : St M5 (sF M9 15 1 (.int (-1))) [(15, 4, vU), (0, 1, upF (qDf 1) 0 (.ref 1)), (1, 2, vC)] _ 17 _ _ := St_sF (j := 1) (v := .int (-1)) h9 (by simp) (Or.inr (by decide))
  have g10 : ∀ k, pF 4 M9 15 1 (.int (-1)) k = k (sF M9 15 1 (.int (-1))) := fun k => pF_at h9.1 List.mem_cons_self
  generalize sF M9 15 1 (.int (-1)) = M10 at h10 g10
  have h11 : St M5 (sF M10 0 1 (.ref 15)) [(0, 1, upF (upF (qDf 1) 0 (.ref 1)) 1 (.ref 15)), (15, 4, vU), (1, 2, vC)] _ 17 _ _ := St_sF (j := 1) (v := .ref 15) (St_sub (os' := [(0, 1, upF (qDf 1) 0 (.ref 1)), (15, 4, vU), (1, 2, vC)]) h10 (by simp) (fun _ h => h)) (by simp) (Or.inl (by decide))
  have g11 : ∀ k, pF 1 M10 0 1 (.ref 15) k = k (sF M10 0 1 (.ref 15)) := fun k => pF_at (F := upF (qDf 1) 0 (.ref 1)) h10.1 (by simp)
  generalize sF M10 0 1 (.ref 15) = M11 at h11 g11
  have h12 : St M5 (nO M11 6) [(17, 6, qDf 6), (0, 1, upF (upF (qDf 1) 0 (.ref 1)) 1 (.ref 15)), (15, 4, vU), (1, 2, vC)] _ 18 _ _ := St_nO h11 (by decide)
  have h13 : St M5 (nO (nO M11 6) 3) [(18, 3, qDf 3), (17, 6, qDf 6), (0, 1, upF (upF (qDf 1) 0 (.ref 1)) 1 (.ref 15)), (15, 4, vU), (1, 2, vC)] _ 19 _ _ := St_nO h12 (by decide)
  obtain ⟨M14, e14, h14⟩ := St_mk (aN 5732 2048) h13 (by decide) (by decide) (by simp) (Or.inr (by decide))
  have h15 : St M5 (sF M14 17 0 (.ref 18)) [(17, 6, upF (qDf 6) 0 (.ref 18)), (18, 3, vW), (0, 1, upF (upF (qDf 1) 0 (.ref 1)) 1 (.ref 15)), (15, 4, vU), (1, 2, vC)] _ 26 _ _ := St_sF (j := 0) (v := .ref 18) (St_sub (os' := [(17, 6, qDf 6), (18, 3, vW), (0, 1, upF (upF (qDf 1) 0 (.ref 1)) 1 (.ref 15)), (15, 4, vU), (1, 2, vC)]) h14 (by simp [vW]) (fun _ h => h)) (by simp) (Or.inr (by decide))
  have g15 : ∀ k, pF 6 M14 17 0 (.ref 18) k = k (sF M14 17 0 (.ref 18)) := fun k => pF_at (F := qDf 6) h14.1 (by simp)
  generalize sF M14 17 0 (.ref 18) = M15 at h15 g15
  have h16 : St M5 (nO M15 7) [(26, 7, qDf 7), (17, 6, upF (qDf 6) 0 (.ref 18)), (18, 3, vW), (0, 1, upF (upF (qDf 1) 0 (.ref 1)) 1 (.ref 15)), (15, 4, vU), (1, 2, vC)] _ 27 _ _ := St_nO h15 (by decide)
  obtain ⟨M17, e17, h17⟩ := St_mk aQ h16 (by decide) (by decide) (by simp) (Or.inr (by decide))
  have h18 : St M5 (sF M17 17 1 (.ref 26)) [(17, 6, upF (upF (qDf 6) 0 (.ref 18)) 1 (.ref 26)), (26, 7, vQ), (18, 3, vW), (0, 1, upF (upF (qDf 1) 0 (.ref 1)) 1 (.ref 15)), (15, 4, vU), (1, 2, vC)] _ 30 _ _ := St_sF (j := 1) (v := .ref 26) (St_sub (os' := [(17, 6, upF (qDf 6) 0 (.ref 18)), (26, 7, vQ), (18, 3, vW), (0, 1, upF (upF (qDf 1) 0 (.ref 1)) 1 (.ref 15)), (15, 4, vU), (1, 2, vC)]) h17 (by simp [vQ]) (fun _ h => h)) (by simp) (Or.inr (by decide))
  have g18 : ∀ k, pF 6 M17 17 1 (.ref 26) k = k (sF M17 17 1 (.ref 26)) := fun k => pF_at (F := upF (qDf 6) 0 (.ref 18)) h17.1 (by simp)
  generalize sF M17 17 1 (.ref 26) = M18 at h18 g18
  have h19 : St M5 (nO M18 8) [(30, 8, qDf 8), (17, 6, upF (upF (qDf 6) 0 (.ref 18)) 1 (.ref 26)), (26, 7, vQ), (18, 3, vW), (0, 1, upF (upF (qDf 1) 0 (.ref 1)) 1 (.ref 15)), (15, 4, vU), (1, 2, vC)] _ 31 _ _ := St_nO h18 (by decide)
  have g19 : (∀ k, gR 6 (nO M18 8) 17 0 k = k 18) ∧ ∀ k, gR 6 (nO M18 8) 17 1 k = k 26 := ⟨fun k => gR_at (F := upF (upF (qDf 6) 0 (.ref 18)) 1 (.ref 26)) h19.1 (by simp) rfl, fun k => gR_at (F := upF (upF (qDf 6) 0 (.ref 18)) 1 (.ref 26)) h19.1 (by simp) rfl⟩
  have s19 : mS M18 = 30 := h18.2.1
  generalize hM19 : nO M18 8 = M19 at h19 g19
  have h20 : St M5 (sF M19 30 0 (.ref 18)) [(30, 8, upF (qDf 8) 0 (.ref 18)), (17, 6, upF (upF (qDf 6) 0 (.ref 18)) 1 (.ref 26)), (26, 7, vQ), (18, 3, vW), (0, 1, upF (upF (qDf 1) 0 (.ref 1)) 1 (.ref 15)), (15, 4, vU), (1, 2, vC)] _ 31 _ _ := St_sF (j := 0) (v := .ref 18) h19 (by simp) (Or.inr (by decide))
  have g20 : ∀ k, pF 8 M19 30 0 (.ref 18) k = k (sF M19 30 0 (.ref 18)) := fun k => pF_at h19.1 List.mem_cons_self
  generalize sF M19 30 0 (.ref 18) = M20 at h20 g20
  have h21 : St M5 (sF M20 30 1 (.ref 26)) [(30, 8, upF (upF (qDf 8) 0 (.ref 18)) 1 (.ref 26)), (17, 6, upF (upF (qDf 6) 0 (.ref 18)) 1 (.ref 26)), (26, 7, vQ), (18, 3, vW), (0, 1, upF (upF (qDf 1) 0 (.ref 1)) 1 (.ref 15)), (15, 4, vU), (1, 2, vC)] _ 31 _ _ := St_sF (j := 1) (v := .ref 26) h20 (by simp) (Or.inr (by decide))
  have g21 : ∀ k, pF 8 M20 30 1 (.ref 26) k = k (sF M20 30 1 (.ref 26)) := fun k => pF_at h20.1 List.mem_cons_self
  generalize sF M20 30 1 (.ref 26) = M21 at h21 g21
  have h22 : St M5 (nO M21 5) [(31, 5, qDf 5), (30, 8, upF (upF (qDf 8) 0 (.ref 18)) 1 (.ref 26)), (17, 6, upF (upF (qDf 6) 0 (.ref 18)) 1 (.ref 26)), (26, 7, vQ), (18, 3, vW), (0, 1, upF (upF (qDf 1) 0 (.ref 1)) 1 (.ref 15)), (15, 4, vU), (1, 2, vC)] _ 32 _ _ := St_nO h21 (by decide)
  have s22 : mS M21 = 31 := h21.2.1
  generalize hM22 : nO M21 5 = M22 at h22
  have h23 : St M5 (sF M22 31 0 (.ref 18)) [(31, 5, upF (qDf 5) 0 (.ref 18)), (30, 8, upF (upF (qDf 8) 0 (.ref 18)) 1 (.ref 26)), (17, 6, upF (upF (qDf 6) 0 (.ref 18)) 1 (.ref 26)), (26, 7, vQ), (18, 3, vW), (0, 1, upF (upF (qDf 1) 0 (.ref 1)) 1 (.ref 15)), (15, 4, vU), (1, 2, vC)] _ 32 _ _ := St_sF (j := 0) (v := .ref 18) h22 (by simp) (Or.inr (by decide))
  have g23 : ∀ k, pF 5 M22 31 0 (.ref 18) k = k (sF M22 31 0 (.ref 18)) := fun k => pF_at h22.1 List.mem_cons_self
  generalize sF M22 31 0 (.ref 18) = M23 at h23 g23
  obtain ⟨M24, e24, h24⟩ := St_mk aW h23 (by decide) (by decide) (by simp) (Or.inr (by decide))
  have h25 : St M5 (sF M24 30 2 (.ref 31)) [(30, 8, upF (upF (upF (qDf 8) 0 (.ref 18)) 1 (.ref 26)) 2 (.ref 31)), (31, 5, vL), (17, 6, upF (upF (qDf 6) 0 (.ref 18)) 1 (.ref 26)), (26, 7, vQ), (18, 3, vW), (0, 1, upF (upF (qDf 1) 0 (.ref 1)) 1 (.ref 15)), (15, 4, vU), (1, 2, vC)] _ 35 _ _ := St_sF (j := 2) (v := .ref 31) (St_sub (os' := [(30, 8, upF (upF (qDf 8) 0 (.ref 18)) 1 (.ref 26)), (31, 5, vL), (17, 6, upF (upF (qDf 6) 0 (.ref 18)) 1 (.ref 26)), (26, 7, vQ), (18, 3, vW), (0, 1, upF (upF (qDf 1) 0 (.ref 1)) 1 (.ref 15)), (15, 4, vU), (1, 2, vC)]) h24 (by simp [vL]) (fun _ h => h)) (by simp) (Or.inr (by decide))
  have g25 : ∀ k, pF 8 M24 30 2 (.ref 31) k = k (sF M24 30 2 (.ref 31)) := fun k => pF_at (F := upF (upF (qDf 8) 0 (.ref 18)) 1 (.ref 26)) h24.1 (by simp)
  generalize sF M24 30 2 (.ref 31) = M25 at h25 g25
  obtain ⟨M26, e26, h26⟩ := St_mk aS h25 (by decide) (by decide) (by simp) (Or.inr (by decide))
  have h27 : St M5 (sF M26 17 2 (.ref 30)) [(17, 6, upF (upF (upF (qDf 6) 0 (.ref 18)) 1 (.ref 26)) 2 (.ref 30)), (30, 8, vSe), (31, 5, vL), (26, 7, vQ), (18, 3, vW), (0, 1, upF (upF (qDf 1) 0 (.ref 1)) 1 (.ref 15)), (15, 4, vU), (1, 2, vC)] _ 42 _ _ := St_sF (j := 2) (v := .ref 30) (St_sub (os' := [(17, 6, upF (upF (qDf 6) 0 (.ref 18)) 1 (.ref 26)), (30, 8, vSe), (31, 5, vL), (26, 7, vQ), (18, 3, vW), (0, 1, upF (upF (qDf 1) 0 (.ref 1)) 1 (.ref 15)), (15, 4, vU), (1, 2, vC)]) h26 (by simp [vSe]) (fun _ h => h)) (by simp) (Or.inr (by decide))
  have g27 : ∀ k, pF 6 M26 17 2 (.ref 30) k = k (sF M26 17 2 (.ref 30)) := fun k => pF_at (F := upF (upF (qDf 6) 0 (.ref 18)) 1 (.ref 26)) h26.1 (by simp)
  generalize sF M26 17 2 (.ref 30) = M27 at h27 g27
  obtain ⟨M28, e28, h28⟩ := St_mk aP h27 (by decide) (by decide) (by simp) (Or.inr (by decide))
  have h29 : St M5 (sF M28 0 2 (.ref 17)) [(0, 1, vX), (17, 6, vP), (30, 8, vSe), (31, 5, vL), (26, 7, vQ), (18, 3, vW), (15, 4, vU), (1, 2, vC)] _ 46 _ _ := St_sF (j := 2) (v := .ref 17) (St_sub (os' := [(0, 1, upF (upF (qDf 1) 0 (.ref 1)) 1 (.ref 15)), (17, 6, vP), (30, 8, vSe), (31, 5, vL), (26, 7, vQ), (18, 3, vW), (15, 4, vU), (1, 2, vC)]) h28 (by simp [vP]) (fun _ h => h)) (by simp) (Or.inl (by decide))
  have g29 : ∀ k, pF 1 M28 0 2 (.ref 17) k = k (sF M28 0 2 (.ref 17)) := fun k => pF_at (F := upF (upF (qDf 1) 0 (.ref 1)) 1 (.ref 15)) h28.1 (by simp)
  generalize sF M28 0 2 (.ref 17) = M29 at h29 g29
  have pl : F_XPlanes_init n 31 18 M22 = some (.inl none, M24) := by
    unfold F_XPlanes_init
    rw [g23]
    exact e24 (fun M => some (.inl none, M))
  have se : F_XSearch_init n 30 18 26 M19 = some (.inl none, M26) := by
    unfold F_XSearch_init
    rw [g20, g21, mO_eq, s22, hM22, pl, cV_ok, g25]
    exact e26 (fun M => some (.inl none, M))
  have pr' : F_XProver_init n 17 (nO M11 6) = some (.inl none, M28) := by
    unfold F_XProver_init
    rw [mO_eq, show mS (nO M11 6) = 18 from h12.2.1]
    have e14' : F_XNodes_init n 18 (5732 : Int32) (2048 : Int32) (nO (nO M11 6) 3) = some (.inl none, M14) := e14 (fun M => some (.inl none, M))
    rw [e14', cV_ok, g15, mO_eq, show mS M15 = 26 from h15.2.1]
    have e17' : F_XQuestion_init n 26 (nO M15 7) = some (.inl none, M17) := e17 (fun M => some (.inl none, M))
    rw [e17', cV_ok, g18, mO_eq, s19, hM19, g19.1, g19.2, se, cV_ok, g27]
    exact e28 (fun M => some (.inl none, M))
  have ou : F_XOutcome_init n 15 (nO M7 4) = some (.inl none, M10) := by
    have : F_XOutcome_init n 15 (nO M7 4) = mkA 4 15 [(0, 16, 0)] (fun M3 => pF 4 M3 15 1 (.int (-1)) (fun M4 => some (.inl none, M4))) (nO M7 4) := rfl
    rw [this, e9, g10]
  refine ⟨M5, M29, S1, _, fun k => ?_, R5, cs, rw3, h29, ?_⟩
  · have e : F_X_init n 0 (nO qM0 1) = some (.inl none, M29) := by
      unfold F_X_init
      rw [mO_eq, show mS (nO qM0 1) = 1 from rfl, e6, g7, mO_eq, show mS M7 = 15 from h7.2.1, ou, cV_ok, g11, mO_eq, show mS M11 = 17 from h11.2.1, pr', cV_ok, g29]
    rw [e]; rfl
  · decide
