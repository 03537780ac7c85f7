/-! THE CLASS'S STORE, EMPTIED -/
section RESET
variable {O : qOb9} {a n R H : Nat} {S : qS}
/-- M constants, nothing else -/
def CK (O : qOb9) (a R H : Nat) (S : qS) (M : Nat) : Prop := CS0 O a R H S M ∧ M ≤ 3 ∧ ∀ m, m < M → rwI (S.1 a) (nI m) (-1) (-1) (-1) m
theorem put_eq {M : Nat} (hC : CS0 O a R H S M) {k x y z : Int32} : G_XNodes_put O n a k x y z S = G_XNodes_put_56 O n n a k x y z (nI (cH H k x y z)) (tpF (rwH H (S.1 a)) (cH H k x y z) M) (nI M) S := by
  obtain ⟨hN, h7, hM, hw, hc⟩ := hC
  have hR := hN.2.2.2.1
  have hH := hN.2.2.2.2
  obtain ⟨c1, c2⟩ := cH_eq hH k x y z
  have i5 : cH H k x y z < oN O a 5 := by rw [hN.2.2.1]; exact c1
  unfold G_XNodes_put
  rw [hB_eq, uA (ci := 3) hN.1 (by decide), un (ci := 3) hN.1 (by decide), hN.2.2.1, hB_eq]
  have : ((cMix k x y z ^^^ (((cMix k x y z).toUInt32 >>> ((13 : Int32).toUInt32 &&& Int32.toUInt32 31)).toInt32)) &&& (nI H - 1)) = nI (cH H k x y z) := c2
  unfold cMix at this
  rw [this, uA (ci := 3) hN.1 (by decide), ul (ci := 3) hN.1 (by decide) i5 (by omega), hc.1 _ c1, hB_eq, Int32.add_sub_cancel, uI (ci := 3) hN.1 (by decide), h7]
theorem cls_putc {M : Nat} (hn : 7000 ≤ n) (hR5 : 5 ≤ R) (hC : CK O a R H S M) (hM2 : M ≤ 2) : ∃ S', G_XNodes_put O n a (nI M) (-1) (-1) (-1) S = some (nI M, S') ∧ CK O a R H S' (M + 1) ∧ rOnly a S S' := by
  obtain ⟨h0, h3, hk⟩ := hC
  have h0' := h0
  obtain ⟨hN, h7, hM, hw, hc⟩ := h0
  have hR := hN.2.2.2.1
  have hH := hN.2.2.2.2
  obtain ⟨c1, c2⟩ := cH_eq hH (nI M) (-1) (-1) (-1)
  rw [put_eq h0']
  rcases cls_put_56 (O := O) (n := n) (k := nI M) (x := -1) (y := -1) (z := -1) (h6 := nI (cH H (nI M) (-1) (-1) (-1))) h0' M M n (Nat.le_refl M) (Nat.le_refl M) (by omega) (by omega) with ⟨q, hq, hr, eq⟩ | ⟨hno, eq⟩
  · have := (hk q hq).1
    rw [hr.1] at this
    have := (nI_eq (by omega) (by omega)).mp this
    omega
  · have ne9 : ¬ nI M = 9 := fun q => by have := (nI_eq (a := M) (b := 9) (by omega) (by decide)).mp q; omega
    have e1 := cls_129 (O := O) (n := n) (x := -1) (y := -1) (z := -1) h0' (by omega) c1 (fun q => absurd q ne9)
    generalize hT : newRow S a M (nI M) (-1) (-1) (-1) (cH H (nI M) (-1) (-1) (-1)) (bN (wFl S a M (nI M) (-1))) = T at e1
    have old : ∀ j i, ¬ (j ≤ 4 ∧ i = M) → j ≠ 5 → ¬ (j = 6 ∧ i = M) → j ≠ 7 → T.1 a j i = S.1 a j i := fun j i h1 h5 h6 h7 => by rw [← hT]; exact newRow_old h1 h5 h6 h7
    have n0 : T.1 a 0 M = nI M := by rw [← hT, newRow_at, if_neg (by omega), if_neg (by omega), if_neg (by omega), if_neg (by omega), if_neg (by omega), if_neg (by omega), if_pos ⟨rfl, rfl⟩]
    have n1 : T.1 a 1 M = -1 := by rw [← hT, newRow_at, if_neg (by omega), if_neg (by omega), if_neg (by omega), if_neg (by omega), if_neg (by omega), if_pos ⟨rfl, rfl⟩]
    have n2 : T.1 a 2 M = -1 := by rw [← hT, newRow_at, if_neg (by omega), if_neg (by omega), if_neg (by omega), if_neg (by omega), if_pos ⟨rfl, rfl⟩]
    have n3 : T.1 a 3 M = -1 := by rw [← hT, newRow_at, if_neg (by omega), if_neg (by omega), if_neg (by omega), if_pos ⟨rfl, rfl⟩]
    have n4 : T.1 a 4 M = bN (wFl S a M (nI M) (-1)) := by rw [← hT, newRow_at, if_pos ⟨rfl, rfl⟩]
    have n7 : T.1 a 7 0 = nI (M + 1) := by rw [← hT, newRow_at, if_neg (by omega), if_neg (by omega), if_neg (by omega), if_neg (by omega), if_neg (by omega), if_neg (by omega), if_neg (by omega), if_pos ⟨rfl, rfl⟩]
    have n6 : T.1 a 6 M = S.1 a 5 (cH H (nI M) (-1) (-1) (-1)) - 1 := by rw [← hT, newRow_at, if_neg (by omega), if_neg (by omega), if_pos ⟨rfl, rfl⟩]
    have n5 : ∀ hh, T.1 a 5 hh = if hh = cH H (nI M) (-1) (-1) (-1) then nI (M + 1) else S.1 a 5 hh := fun hh => by
      rw [← hT, newRow_at, if_neg (by omega)]
      by_cases q : hh = cH H (nI M) (-1) (-1) (-1)
      · rw [if_pos ⟨rfl, q⟩, if_pos q]
      · rw [if_neg (fun w => q w.2), if_neg q, if_neg (by omega), if_neg (by omega), if_neg (by omega), if_neg (by omega), if_neg (by omega), if_neg (by omega)]
    have rows : ∀ m, m < M + 1 → rwI (T.1 a) (nI m) (-1) (-1) (-1) m := fun m hm => by
      by_cases q : m = M
      · rw [q]; exact ⟨n0, n1, n2, n3⟩
      · obtain ⟨q0, q1, q2, q3⟩ := hk m (by omega)
        exact ⟨by rw [old 0 m (by omega) (by decide) (by omega) (by decide)]; exact q0, by rw [old 1 m (by omega) (by decide) (by omega) (by decide)]; exact q1, by rw [old 2 m (by omega) (by decide) (by omega) (by decide)]; exact q2, by rw [old 3 m (by omega) (by decide) (by omega) (by decide)]; exact q3⟩
    have hh : ∀ i, i < M → rwH H (T.1 a) i = rwH H (S.1 a) i := fun i hi => by
      unfold rwH
      rw [old 0 i (by omega) (by decide) (by omega) (by decide), old 1 i (by omega) (by decide) (by omega) (by decide), old 2 i (by omega) (by decide) (by omega) (by decide), old 3 i (by omega) (by decide) (by omega) (by decide)]
    have hM' : rwH H (T.1 a) M = cH H (nI M) (-1) (-1) (-1) := by unfold rwH; rw [n0, n1, n2, n3]
    have low : ∀ (σ : Nat → Nat → Int32) m, m < 3 → σ 0 m = nI m → wd (σ 0) (σ 2) m = false := fun σ m hm e => by
      rw [wd_n9 (by rw [e]; exact fun q => by have := (nI_eq (a := m) (b := 9) (by omega) (by decide)).mp q; omega), e]
      rcases (show m = 0 ∨ m = 1 ∨ m = 2 by omega) with q | q | q <;> subst q <;> rfl
    refine ⟨T, by rw [eq, e1], ⟨⟨hN, n7, by omega, fun m hm => ?_, fun h' hb => ?_, fun i hi => ?_⟩, by omega, rows⟩, by rw [← hT]; exact newRow_only⟩
    · rw [low (T.1 a) m (by omega) (rows m hm).1]
      by_cases q : m = M
      · rw [q, n4]
        unfold wFl
        rw [decide_eq_false ne9]
        rcases (show M = 0 ∨ M = 1 ∨ M = 2 by omega) with z | z | z <;> subst z <;> rfl
      · rw [old 4 m (by omega) (by decide) (by omega) (by decide), hw m (by omega), low (S.1 a) m (by omega) (hk m (by omega)).1]
    · rw [n5]
      unfold tpF
      by_cases q : h' = cH H (nI M) (-1) (-1) (-1)
      · rw [if_pos q, hM', if_pos q.symm, nI_1]
      · rw [if_neg q, hM', if_neg (fun w => q w.symm), hc.1 h' hb, tpF_congr (ρ := rwH H (T.1 a)) (ρ' := rwH H (S.1 a)) hh]
    · by_cases q : i = M
      · rw [q, n6, hM', hc.1 _ c1, Int32.add_sub_cancel]
        exact (tpF_congr hh).symm
      · rw [old 6 i (by omega) (by decide) (by omega) (by decide), hc.2 i (by omega), hh i (by omega)]
        exact (tpF_congr (fun j hj => hh j (by omega))).symm
/-- a row filled with a number -/
theorem cls_fill {o ci j L : Nat} {v : Int32} (h : oC O o = ci + 1) (hj : qKd ci j = 0) (hL : oN O o j = L) (hL' : L < n) (hb : L < 2 ^ 31) : G_JArrays_fill O n (o, j) v S = some ((), setF S o j (fun i => if i < L then v else S.1 o j i)) := by
  have loop : ∀ (d i f : Nat) (G : Nat → Int32), i + d = L → d < f → G_JArrays_fill_5 O n f (o, j) v (nI i) (nI L) (setF S o j G) = some ((), setF S o j (fun k => if i ≤ k ∧ k < L then v else G k)) := by
    intro d
    induction d with
    | zero =>
      intro i f G e hf
      obtain ⟨f, rfl⟩ : ∃ q, f = q + 1 := ⟨f - 1, by omega⟩
      rw [G_JArrays_fill_5, if_pos (nI_le (by omega) (by omega))]
      have e2 : (fun k => if i ≤ k ∧ k < L then v else G k) = G := by
        funext k
        rw [if_neg (by omega)]
      rw [e2]
    | succ d ih =>
      intro i f G e hf
      obtain ⟨f, rfl⟩ : ∃ q, f = q + 1 := ⟨f - 1, by omega⟩
      rw [G_JArrays_fill_5, if_neg (nI_ge (by omega) (by omega)), uw h hj (by rw [hL]; omega) (by omega), setF_up, setF_setF, setF_same, hB_eq, nI_1, ih (i + 1) f _ (by omega) (by omega)]
      have e2 : (fun k => if i + 1 ≤ k ∧ k < L then v else if k = i then v else G k) = (fun k => if i ≤ k ∧ k < L then v else G k) := by
        funext k
        by_cases q : k = i
        · rw [if_neg (by omega), if_pos q, if_pos (by omega)]
        · rw [if_neg q]
          by_cases q2 : i + 1 ≤ k ∧ k < L
          · rw [if_pos q2, if_pos (by omega)]
          · rw [if_neg q2, if_neg (by omega)]
      rw [e2]
  unfold G_JArrays_fill
  rw [un h (by rw [hj]; decide), hL]
  have q := loop L 0 n (S.1 o j) (by omega) hL'
  rw [setF_self, nI_0] at q
  rw [q]
  have e2 : (fun k => if 0 ≤ k ∧ k < L then v else S.1 o j k) = (fun i => if i < L then v else S.1 o j i) := by
    funext k
    by_cases q : k < L
    · rw [if_pos ⟨Nat.zero_le k, q⟩, if_pos q]
    · rw [if_neg (fun z => q z.2), if_neg q]
  rw [e2]
/-- reset: the three constants alone -/
theorem cls_reset {E : Nat} (hn : 7000 ≤ n) (hN : NdO O a R H) (hR5 : 5 ≤ R) : ∃ S', G_XNodes_reset O n a S = some ((), S') ∧ CS O a R H S' E 3 ∧ rOnly a S S' ∧ ∀ m, m < 3 → rwI (S'.1 a) (nI m) (-1) (-1) (-1) m := by
  have hH := hN.2.2.2.2
  unfold G_XNodes_reset
  rw [uA (ci := 3) hN.1 (by decide), cls_fill (ci := 3) hN.1 (by decide) hN.2.2.1 (by omega) (by omega), yV_some, uP (ci := 3) hN.1 (by decide)]
  generalize hT : setF S a 5 (fun i => if i < H then (0 : Int32) else S.1 a 5 i) = T
  have t5 : ∀ hh, hh < H → T.1 a 5 hh = 0 := fun hh hb => by rw [← hT, setF_same]; exact if_pos hb
  have o1 : rOnly a S T := by rw [← hT]; exact setF_only
  have c0 : CK O a R H (up3 T.1 a 7 0 0, T.2) 0 := by
    refine ⟨⟨hN, up3_v, Nat.zero_le R, fun m hm => absurd hm (Nat.not_lt_zero m), fun hh hb => ?_, fun i hi => absurd hi (Nat.not_lt_zero i)⟩, by omega, fun m hm => absurd hm (Nat.not_lt_zero m)⟩
    rw [up3_f (by decide), t5 hh hb, tpF]; decide
  obtain ⟨S1, e1, c1, p1⟩ := cls_putc (O := O) (n := n) hn hR5 c0 (by omega)
  obtain ⟨S2, e2, c2, p2⟩ := cls_putc (O := O) (n := n) hn hR5 c1 (by omega)
  obtain ⟨S3, e3, c3, p3⟩ := cls_putc (O := O) (n := n) hn hR5 c2 (by omega)
  have e1' : G_XNodes_put O n a 0 (-1) (-1) (-1) (up3 T.1 a 7 0 0, T.2) = some (nI 0, S1) := e1
  have e2' : G_XNodes_put O n a 1 (-1) (-1) (-1) S1 = some (nI 1, S2) := e2
  have e3' : G_XNodes_put O n a 2 (-1) (-1) (-1) S2 = some (nI 2, S3) := e3
  rw [uk (ci := 3) hN.1, e1', yC_some, uk (ci := 3) hN.1, e2', yC_some, uk (ci := 3) hN.1, e3', yC_some]
  obtain ⟨⟨q1, q2, q3, q4, q5⟩, _, q6⟩ := c3
  refine ⟨S3, rfl, ⟨q1, q2, q3, ⟨Nat.le_refl 3, fun m hm => ?_, fun m m' hm hm' h1 _ _ _ => ?_⟩, q4, q5⟩, o1.trans (rOnly.up.trans (p1.trans (p2.trans p3))), q6⟩
  · obtain ⟨z0, z1, z2, z3⟩ := q6 m hm
    exact Or.inl ⟨hm, z0, z1, z2, z3⟩
  · rw [(q6 m hm).1, (q6 m' hm').1] at h1
    exact (nI_eq (by omega) (by omega)).mp h1
end RESET
