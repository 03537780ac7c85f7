/-! THE REFERENCE IS MADE -/
def vR0 : Nat → Value := fA 47 aR (upF (qDf 0) 1 (.int 3))
def asR : aL' := arr 51 (aR.drop 4)
/-- the constants' rows, up to i -/
def Rw (M : PM) (i : Nat) : Prop := (∀ a, 47 ≤ a → a ≤ 50 → mK M a = 0 ∧ mN M a = 6400) ∧ (∀ m, mI M 47 m = if m < i then nI m else 0) ∧ ∀ a, 48 ≤ a → a ≤ 50 → ∀ m, mI M a m = if m < i then -1 else 0
theorem sI_ok {M : PM} {a i : Nat} {v : Int32} : Cn M (sI M a i v) 0 0 0 ∧ (∀ b, b ≠ a → Kp M (sI M a i v) b) ∧ (∀ b, mK (sI M a i v) b = mK M b ∧ mN (sI M a i v) b = mN M b ∧ mF (sI M a i v) b = mF M b) ∧ ∀ m, mI (sI M a i v) a m = if m = i then v else mI M a m := by
  refine ⟨⟨rfl, rfl, rfl⟩, fun b hb => ⟨rfl, rfl, ?_, rfl, rfl⟩, fun b => ⟨rfl, rfl, rfl⟩, fun m => ?_⟩
  · show up2 (mI M) a i v b = mI M b
    exact up2_nf hb
  · show up2 (mI M) a i v a m = _
    exact up2_sm _ _ _ _ _
theorem wI_at {M : PM} {a i : Nat} {v : Int32} (hk : mK M a = 0) (hi : i < mN M a) (h31 : i < 2 ^ 31) {k : PM → qO} : wI M a (nI i) v k = k (sI M a i v) := by
  unfold wI
  rw [nI_clamp h31, if_pos ⟨hk, nI_pos h31, hi⟩]
theorem gR_of {M : PM} {o ci j a : Nat} (h1 : mK M o = ci + 3) (h2 : mF M o j = .ref a) {k : Nat → qO} : gR ci M o j k = k a := by
  unfold gR
  rw [if_pos h1, h2]
def RFs (M : PM) : Prop := mK M 46 = 3 ∧ mF M 46 3 = .ref 47 ∧ mF M 46 4 = .ref 48 ∧ mF M 46 5 = .ref 49 ∧ mF M 46 6 = .ref 50
theorem rows_step {n f i : Nat} {M : PM} (h : Rw M i) (hi : i < 3) (hf : RFs M) : ∃ M', F_XModel_init_196 n (f + 1) 46 (nI i) M = F_XModel_init_196 n f 46 (nI (i + 1)) M' ∧ Rw M' (i + 1) ∧ RFs M' ∧ (∀ b, b < 47 ∨ 50 < b → Kp M M' b) ∧ Cn M M' 0 0 0 := by
  obtain ⟨r1, r2, r3⟩ := h
  obtain ⟨f0, f3, f4, f5, f6⟩ := hf
  have n3 : ¬ (3 : Int32) ≤ nI i := nI_ge (a := i) (b := 3) (by omega) (by decide)
  obtain ⟨c1, k1, s1, v1⟩ := sI_ok (M := M) (a := 47) (i := i) (v := nI i)
  have w1 : ∀ k, wI M 47 (nI i) (nI i) k = k (sI M 47 i (nI i)) := fun k => wI_at (r1 47 (by omega) (by omega)).1 (by rw [(r1 47 (by omega) (by omega)).2]; omega) (by omega)
  generalize sI M 47 i (nI i) = M1 at c1 k1 s1 v1 w1
  obtain ⟨c2, k2, s2, v2⟩ := sI_ok (M := M1) (a := 48) (i := i) (v := -1)
  have w2 : ∀ k, wI M1 48 (nI i) (-1) k = k (sI M1 48 i (-1)) := fun k => wI_at (by rw [(s1 48).1]; exact (r1 48 (by omega) (by omega)).1) (by rw [(s1 48).2.1, (r1 48 (by omega) (by omega)).2]; omega) (by omega)
  have f4' : mF M1 46 4 = .ref 48 := by rw [(s1 46).2.2]; exact f4
  have f0' : mK M1 46 = 3 := by rw [(s1 46).1]; exact f0
  generalize sI M1 48 i (-1) = M2 at c2 k2 s2 v2 w2
  obtain ⟨c3, k3, s3, v3⟩ := sI_ok (M := M2) (a := 49) (i := i) (v := -1)
  have w3 : ∀ k, wI M2 49 (nI i) (-1) k = k (sI M2 49 i (-1)) := fun k => wI_at (by rw [(s2 49).1, (s1 49).1]; exact (r1 49 (by omega) (by omega)).1) (by rw [(s2 49).2.1, (s1 49).2.1, (r1 49 (by omega) (by omega)).2]; omega) (by omega)
  have f5' : mF M2 46 5 = .ref 49 := by rw [(s2 46).2.2, (s1 46).2.2]; exact f5
  have f0'' : mK M2 46 = 3 := by rw [(s2 46).1]; exact f0'
  generalize sI M2 49 i (-1) = M3 at c3 k3 s3 v3 w3
  obtain ⟨c4, k4, s4, v4⟩ := sI_ok (M := M3) (a := 50) (i := i) (v := -1)
  have w4 : ∀ k, wI M3 50 (nI i) (-1) k = k (sI M3 50 i (-1)) := fun k => wI_at (by rw [(s3 50).1, (s2 50).1, (s1 50).1]; exact (r1 50 (by omega) (by omega)).1) (by rw [(s3 50).2.1, (s2 50).2.1, (s1 50).2.1, (r1 50 (by omega) (by omega)).2]; omega) (by omega)
  have f6' : mF M3 46 6 = .ref 50 := by rw [(s3 46).2.2, (s2 46).2.2, (s1 46).2.2]; exact f6
  have f03 : mK M3 46 = 3 := by rw [(s3 46).1]; exact f0''
  generalize sI M3 50 i (-1) = M4 at c4 k4 s4 v4 w4
  have fe : ∀ j, mF M4 46 j = mF M 46 j := fun j => by rw [(s4 46).2.2, (s3 46).2.2, (s2 46).2.2, (s1 46).2.2]
  have ite1 : ∀ (m : Nat) (y : Int32), (if m = i then y else if m < i then y else 0) = if m < i + 1 then y else 0 := fun m y => by
    by_cases a : m = i
    · rw [if_pos a, if_pos (by omega)]
    · by_cases b : m < i
      · rw [if_neg a, if_pos b, if_pos (by omega)]
      · rw [if_neg a, if_neg b, if_neg (by omega)]
  refine ⟨M4, ?_, ⟨fun a h1 h2 => ?_, fun m => ?_, fun a h1 h2 m => ?_⟩, ⟨by rw [(s4 46).1]; exact f03, by rw [fe]; exact f3, by rw [fe]; exact f4, by rw [fe]; exact f5, by rw [fe]; exact f6⟩, fun b hb => (((k1 b (by omega)).trans (k2 b (by omega))).trans (k3 b (by omega))).trans (k4 b (by omega)), ?_⟩
  · rw [F_XModel_init_196, if_neg n3, gR_of f0 f3, w1, gR_of f0' f4', w2, gR_of f0'' f5', w3, gR_of f03 f6', w4]
    unfold bI
    rw [nI_1]
  · rw [(s4 a).1, (s3 a).1, (s2 a).1, (s1 a).1, (s4 a).2.1, (s3 a).2.1, (s2 a).2.1, (s1 a).2.1]; exact r1 a h1 h2
  · rw [(k4 47 (by omega)).2.2.1, (k3 47 (by omega)).2.2.1, (k2 47 (by omega)).2.2.1, v1 m, r2 m]
    by_cases a : m = i
    · rw [if_pos a, if_pos (by omega), a]
    · rw [if_neg a]
      by_cases b : m < i
      · rw [if_pos b, if_pos (by omega)]
      · rw [if_neg b, if_neg (by omega)]
  · rcases (show a = 48 ∨ a = 49 ∨ a = 50 by omega) with y | y | y <;> subst y
    · rw [(k4 48 (by omega)).2.2.1, (k3 48 (by omega)).2.2.1, v2 m, (k1 48 (by omega)).2.2.1, r3 48 (by omega) (by omega) m, ite1]
    · rw [(k4 49 (by omega)).2.2.1, v3 m, (k2 49 (by omega)).2.2.1, (k1 49 (by omega)).2.2.1, r3 49 (by omega) (by omega) m, ite1]
    · rw [v4 m, (k3 50 (by omega)).2.2.1, (k2 50 (by omega)).2.2.1, (k1 50 (by omega)).2.2.1, r3 50 (by omega) (by omega) m, ite1]
  · exact ⟨by rw [c4.1, c3.1, c2.1, c1.1], by rw [c4.2.1, c3.2.1, c2.2.1, c1.2.1], by rw [c4.2.2, c3.2.2, c2.2.2, c1.2.2]⟩
/-- up to begin -/
theorem init_R {n : Nat} (hn : 7000 ≤ n) : ∃ M5 M' S1, (∀ k : Nat → Nat → PM → qO, mO 1 qM0 (fun q1 M2 => cV (F_X_init n q1 M2) (fun M3 => mO 0 M3 (fun q4 M5 => cV (F_XModel_init n q4 M5) (fun M6 => k q1 q4 M6)))) = cV (cV (F_XModel_begin n 46 M') (fun M3 => some (.inl none, M3))) (fun M6 => k 0 46 M6)) ∧ mK M' 46 = 3 ∧ Rp O1 M5 S1 ∧ CS O1 2 300 256 S1 0 3 ∧ (∀ m, m < 3 → rwI (S1.1 2) (nI m) (-1) (-1) (-1) m) ∧ KF M5 M' ∧ Lo M' ((46, 0, upF vR0 2 (.int 3)) :: osX) (asR ++ asX) ∧ Rw M' 3 ∧ mS M' = 69 ∧ mC M' = 69 ∧ mT M' ≤ 200000 := by
  obtain ⟨M5, M1, S1, ts, e1, R5, cs, rw3, h1, hts⟩ := init_X hn
  have h2 : St M5 (nO M1 0) ((46, 0, qDf 0) :: osX) asX 47 _ _ := St_nO h1 (by decide)
  have h3 : St M5 (sF (nO M1 0) 46 1 (.int 3)) ((46, 0, upF (qDf 0) 1 (.int 3)) :: osX) asX 47 _ _ := St_sF (j := 1) (v := .int 3) h2 (by simp [osX]) (Or.inr (by decide))
  have g3 : ∀ k, pF 0 (nO M1 0) 46 1 (.int 3) k = k (sF (nO M1 0) 46 1 (.int 3)) := fun k => pF_at h2.1 List.mem_cons_self
  generalize hM3 : sF (nO M1 0) 46 1 (.int 3) = M3 at h3 g3
  obtain ⟨M4, e4, h4⟩ := St_mk aR h3 (by decide) (by decide) (by simp [osX]) (Or.inr (by decide))
  have hR46 := h4.1.1 _ List.mem_cons_self
  have arR := fun a kd len (hm : (a, kd, len) ∈ arr 47 aR ++ asX) => (h4.1.2 (a, kd, len) hm).2
  have rf4 : RFs M4 := by
    have e : mF M4 46 = vR0 := hR46.2.2
    refine ⟨hR46.2.1, ?_, ?_, ?_, ?_⟩ <;> rw [e] <;> rfl
  have m47 : ∀ a, 47 ≤ a → a ≤ 50 → Ar M4 a 0 6400 := fun a b1 b2 => by
    rcases (show a = 47 ∨ a = 48 ∨ a = 49 ∨ a = 50 by omega) with y | y | y | y <;> subst y
    · exact arR 47 0 6400 (List.mem_append.mpr (Or.inl (by decide)))
    · exact arR 48 0 6400 (List.mem_append.mpr (Or.inl (by decide)))
    · exact arR 49 0 6400 (List.mem_append.mpr (Or.inl (by decide)))
    · exact arR 50 0 6400 (List.mem_append.mpr (Or.inl (by decide)))
  have rw0 : Rw M4 0 := ⟨fun a b1 b2 => ⟨(m47 a b1 b2).1, (m47 a b1 b2).2.1⟩, fun m => by rw [(m47 47 (by omega) (by omega)).2.2.1 m, if_neg (by omega)], fun a b1 b2 m => by rw [(m47 a (by omega) b2).2.2.1 m, if_neg (by omega)]⟩
  obtain ⟨n', en⟩ : ∃ z, n = z + 4 := ⟨n - 4, by omega⟩
  obtain ⟨Ma, ea, ra, fa, ka, ca⟩ := rows_step (n := n) (f := n' + 3) rw0 (by decide) rf4
  obtain ⟨Mb, eb, rb, fb, kb, cb⟩ := rows_step (n := n) (f := n' + 2) ra (by decide) fa
  obtain ⟨Mc, ec, rc, fc, kc, cc⟩ := rows_step (n := n) (f := n' + 1) rb (by decide) fb
  have kabc : ∀ b, b < 47 ∨ 50 < b → Kp M4 Mc b := fun b hb => ((ka b hb).trans (kb b hb)).trans (kc b hb)
  have sabc : mS Mc = 69 ∧ mC Mc = mC M4 ∧ mT Mc = mT M4 := ⟨by rw [cc.1, cb.1, ca.1]; exact h4.2.1, by rw [cc.2.1, cb.2.1, ca.2.1]; rfl, by rw [cc.2.2, cb.2.2, ca.2.2]; rfl⟩
  have lc : Lo Mc ((46, 0, vR0) :: osX) (asR ++ asX) := by
    refine Lo_Kp (Lo_sub h4.1 (fun _ h => h) (fun t ht => ?_)) (by rw [sabc.1]; exact Nat.le_of_eq h4.2.1) (fun t ht => kabc t.1 (Or.inl ?_)) (fun t ht => kabc t.1 ?_)
    · rcases List.mem_append.mp ht with y | y
      · refine List.mem_append.mpr (Or.inl ?_)
        have : ∀ t ∈ asR, t ∈ arr 47 aR := by decide
        exact this t y
      · exact List.mem_append.mpr (Or.inr y)
    · have : ∀ t ∈ ((46, 0, vR0) :: osX : oL), t.1 < 47 := by decide
      exact this t ht
    · have : ∀ t ∈ asR ++ asX, t.1 < 47 ∨ 50 < t.1 := by decide
      exact this t ht
  have ld : Lo (sF Mc 46 2 (.int 3)) ((46, 0, upF vR0 2 (.int 3)) :: osX) (asR ++ asX) := Lo_sF lc (by simp [osX])
  obtain ⟨cd, kd, _⟩ := sF_ok (M := Mc) (o := 46) (j := 2) (v := .int 3)
  have gd' : ∀ k, pF 0 Mc 46 2 (.int 3) k = k (sF Mc 46 2 (.int 3)) := fun k => pF_at lc List.mem_cons_self
  generalize sF Mc 46 2 (.int 3) = Md at ld cd kd gd'
  have hk46 : mK Md 46 = 3 := (ld.1 _ List.mem_cons_self).2.1
  refine ⟨M5, Md, S1, fun k => ?_, hk46, R5, cs, rw3, fun a b1 b2 => ((h4.2.2.1 a b1 b2).trans (kabc a (by omega))).trans (kd a (by omega)), ld, ⟨fun a b1 b2 => ?_, fun m => ?_, fun a b1 b2 m => ?_⟩, by rw [cd.1]; exact sabc.1, ?_, ?_⟩
  · have em : F_XModel_init n 46 (nO M1 0) = cV (F_XModel_begin n 46 Md) (fun M3 => some (.inl none, M3)) := by
      have u0 : F_XModel_init n 46 (nO M1 0) = pF 0 (nO M1 0) 46 1 (.int 3) (fun M1 => mkA 0 46 aR (fun M67 => F_XModel_init_196 n n 46 (0 : Int32) M67) M1) := rfl
      rw [u0, g3, e4]
      have ea' : F_XModel_init_196 n n 46 (0 : Int32) M4 = F_XModel_init_196 n (n' + 3) 46 (nI 1) Ma := by
        have : n = n' + 3 + 1 := by omega
        rw [← nI_0]
        conv => lhs; arg 2; rw [this]
        exact ea
      rw [ea', eb, ec, F_XModel_init_196, if_pos (by decide), gd']
      unfold kO
      rw [if_pos hk46]
    rw [mO_eq, show mS qM0 = 0 from rfl, e1, mO_eq, show mS M1 = 46 from h1.2.1, em]
  · have := rc.1 a b1 b2
    have kk := kd a (by omega)
    rw [kk.1, kk.2.1]; exact this
  · rw [(kd 47 (by omega)).2.2.1]; exact rc.2.1 m
  · rw [(kd a (by omega)).2.2.1]; exact rc.2.2 a b1 b2 m
  · rw [cd.2.1, sabc.2.1, h4.2.2.2.1]; rfl
  · rw [cd.2.2, sabc.2.2, h4.2.2.2.2]
    have : qNf 0 = 36 := rfl
    have : sumL aR ≤ 100000 := by decide
    omega
