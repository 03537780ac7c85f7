section PUT
variable {O : qOb9} {a n R H E M : Nat} {S : qS}
/-- one node more, in rows, chains and words -/
def newRow (S : qS) (a M : Nat) (k x y z : Int32) (hh : Nat) (w : Int32) : qS :=
  (up3 (up3 (up3 (up3 (up3 (up3 (up3 (up3 S.1 a 7 0 (nI (M + 1))) a 0 M k) a 1 M x) a 2 M y) a 3 M z) a 6 M (S.1 a 5 hh - 1)) a 5 hh (nI (M + 1))) a 4 M w, S.2)
theorem newRow_at {k x y z w : Int32} {hh j i : Nat} : (newRow S a M k x y z hh w).1 a j i = if j = 4 ∧ i = M then w else if j = 5 ∧ i = hh then nI (M + 1) else if j = 6 ∧ i = M then S.1 a 5 hh - 1 else if j = 3 ∧ i = M then z else if j = 2 ∧ i = M then y else if j = 1 ∧ i = M then x else if j = 0 ∧ i = M then k else if j = 7 ∧ i = 0 then nI (M + 1) else S.1 a j i := by
  show up3 (up3 (up3 (up3 (up3 (up3 (up3 (up3 S.1 a 7 0 (nI (M + 1))) a 0 M k) a 1 M x) a 2 M y) a 3 M z) a 6 M (S.1 a 5 hh - 1)) a 5 hh (nI (M + 1))) a 4 M w a j i = _
  rw [up3_at, up3_at, up3_at, up3_at, up3_at, up3_at, up3_at, up3_at]
theorem newRow_only {k x y z w : Int32} {hh : Nat} : rOnly a S (newRow S a M k x y z hh w) := by
  refine ⟨rfl, fun o ho => ?_⟩
  funext j i
  show up3 (up3 (up3 (up3 (up3 (up3 (up3 (up3 S.1 a 7 0 (nI (M + 1))) a 0 M k) a 1 M x) a 2 M y) a 3 M z) a 6 M (S.1 a 5 hh - 1)) a 5 hh (nI (M + 1))) a 4 M w o j i = _
  rw [up3_ne (fun q => ho q.1), up3_ne (fun q => ho q.1), up3_ne (fun q => ho q.1), up3_ne (fun q => ho q.1), up3_ne (fun q => ho q.1), up3_ne (fun q => ho q.1), up3_ne (fun q => ho q.1), up3_ne (fun q => ho q.1)]
theorem newRow_old {k x y z w : Int32} {hh j i : Nat} (h1 : ¬ (j ≤ 4 ∧ i = M)) (h5 : j ≠ 5) (h6 : ¬ (j = 6 ∧ i = M)) (h7 : j ≠ 7) : (newRow S a M k x y z hh w).1 a j i = S.1 a j i := by
  rw [newRow_at, if_neg (by omega), if_neg (by omega), if_neg (by omega), if_neg (by omega), if_neg (by omega), if_neg (by omega), if_neg (by omega), if_neg (by omega)]
/-- a row that may stand as node M -/
def LayC (S : qS) (a E M : Nat) (k x y z : Int32) : Prop := ∀ κ α β γ : Nat → Int32, (∀ m, m < M → κ m = S.1 a 0 m ∧ α m = S.1 a 1 m ∧ β m = S.1 a 2 m ∧ γ m = S.1 a 3 m) → κ M = k → α M = x → β M = y → γ M = z → rowOk κ α β γ E M
/-- the flag of a new row -/
def wFl (S : qS) (a M : Nat) (k y : Int32) : Bool := decide (k = 3) || decide (k = 5) || (decide (k = 9) && (inN y M && cWd S a y.toNatClampNeg))
theorem cls_129 (hC : CS0 O a R H S M) (hMR : M < R) {k x y z : Int32} {hh : Nat} (hhh : hh < H) (h9 : k = 9 → ∃ q, q < M ∧ y = nI q) :
    G_XNodes_put_129 O n a k x y z (nI hh) S = some (nI M, newRow S a M k x y z hh (bN (wFl S a M k y))) := by
  have hC' := hC
  obtain ⟨hN, h7, hM, hw, hc⟩ := hC
  have hR := hN.2.2.2.1
  have hH := hN.2.2.2.2
  have i0 : M < oN O a 0 := by rw [hN.2.1 0 (by omega)]; omega
  have i1 : M < oN O a 1 := by rw [hN.2.1 1 (by omega)]; omega
  have i2 : M < oN O a 2 := by rw [hN.2.1 2 (by omega)]; omega
  have i3 : M < oN O a 3 := by rw [hN.2.1 3 (by omega)]; omega
  have i4 : M < oN O a 4 := by rw [hN.2.1 4 (by omega)]; omega
  have i6 : M < oN O a 6 := by rw [hN.2.1 6 (by omega)]; omega
  have i5 : hh < oN O a 5 := by rw [hN.2.2.1]; exact hhh
  have ms : M < 2 ^ 31 := by omega
  have hs : hh < 2 ^ 31 := by omega
  unfold G_XNodes_put_129
  rw [uI (ci := 3) hN.1 (by decide), h7, uA (ci := 3) hN.1 (by decide), un (ci := 3) hN.1 (by decide), hN.2.1 0 (by omega), if_pos ((nI_ltI (by omega) (by omega)).mpr hMR), uI (ci := 3) hN.1 (by decide), h7, uI (ci := 3) hN.1 (by decide), h7, uP (ci := 3) hN.1 (by decide), nI_1, uA (ci := 3) hN.1 (by decide), uw (ci := 3) hN.1 (by decide) i0 ms, uA (ci := 3) hN.1 (by decide), uw (ci := 3) hN.1 (by decide) i1 ms, uA (ci := 3) hN.1 (by decide), uw (ci := 3) hN.1 (by decide) i2 ms, uA (ci := 3) hN.1 (by decide), uw (ci := 3) hN.1 (by decide) i3 ms, uA (ci := 3) hN.1 (by decide), uA (ci := 3) hN.1 (by decide), ul (ci := 3) hN.1 (by decide) i5 hs, uw (ci := 3) hN.1 (by decide) i6 ms, uA (ci := 3) hN.1 (by decide), uw (ci := 3) hN.1 (by decide) i5 hs, uA (ci := 3) hN.1 (by decide)]
  -- the value of the head that was read
  have e5 : ((up3 (up3 (up3 (up3 (up3 S.1 a 7 0 (nI (M + 1))) a 0 M k) a 1 M x) a 2 M y) a 3 M z, S.2) : qS).1 a 5 hh = S.1 a 5 hh := by
    show up3 (up3 (up3 (up3 (up3 S.1 a 7 0 (nI (M + 1))) a 0 M k) a 1 M x) a 2 M y) a 3 M z a 5 hh = _
    rw [up3_at, up3_at, up3_at, up3_at, up3_at, if_neg (by omega), if_neg (by omega), if_neg (by omega), if_neg (by omega), if_neg (by omega)]
  have eT : ∀ w, newRow S a M k x y z hh w = ((up3 (up3 (up3 (up3 (up3 (up3 (up3 (up3 S.1 a 7 0 (nI (M + 1))) a 0 M k) a 1 M x) a 2 M y) a 3 M z) a 6 M (((up3 (up3 (up3 (up3 (up3 S.1 a 7 0 (nI (M + 1))) a 0 M k) a 1 M x) a 2 M y) a 3 M z, S.2) : qS).1 a 5 hh - 1)) a 5 hh (nI (M + 1))) a 4 M w, S.2) : qS) := fun w => by rw [e5]; rfl
  have p249 : ∀ T : qS, G_XNodes_put_249 O n (nI M) (a, 4) (nI M) T = some (nI M, (up3 T.1 a 4 M 1, T.2)) := fun T => by
    unfold G_XNodes_put_249 G_XNodes_put_254
    rw [uw (ci := 3) hN.1 (by decide) i4 ms, nar_1]
  have p253 : ∀ T : qS, G_XNodes_put_253 O n (nI M) (a, 4) (nI M) T = some (nI M, (up3 T.1 a 4 M 0, T.2)) := fun T => by
    unfold G_XNodes_put_253 G_XNodes_put_254
    rw [uw (ci := 3) hN.1 (by decide) i4 ms, nar_0]
  unfold wFl
  by_cases k3 : k = 3
  · rw [if_pos k3, p249, decide_eq_true k3, eT]; rfl
  rw [if_neg k3, decide_eq_false k3, Bool.false_or]
  by_cases k5 : k = 5
  · rw [if_pos k5, p249, decide_eq_true k5, eT]; rfl
  rw [if_neg k5, decide_eq_false k5, Bool.false_or]
  by_cases k9 : k = 9
  · obtain ⟨q, hq, rfl⟩ := h9 k9
    rw [if_pos k9, decide_eq_true k9, Bool.true_and, inN_nI (by omega) hq, Bool.true_and, nI_clamp (by omega)]
    rw [uk (ci := 3) hN.1]
    have q4 : q < oN O a 4 := by rw [hN.2.1 4 (by omega)]; omega
    -- isWord in the state where the row is half laid down
    generalize hT : ((up3 (up3 (up3 (up3 (up3 (up3 (up3 S.1 a 7 0 (nI (M + 1))) a 0 M k) a 1 M x) a 2 M (nI q)) a 3 M z) a 6 M (((up3 (up3 (up3 (up3 (up3 S.1 a 7 0 (nI (M + 1))) a 0 M k) a 1 M x) a 2 M (nI q)) a 3 M z, S.2) : qS).1 a 5 hh - 1)) a 5 hh (nI (M + 1)), S.2) : qS) = T
    have t7 : T.1 a 7 0 = nI (M + 1) := by
      rw [← hT]
      show up3 (up3 (up3 (up3 (up3 (up3 (up3 S.1 a 7 0 (nI (M + 1))) a 0 M k) a 1 M x) a 2 M (nI q)) a 3 M z) a 6 M _) a 5 hh (nI (M + 1)) a 7 0 = _
      rw [up3_at, up3_at, up3_at, up3_at, up3_at, up3_at, up3_at, if_neg (by omega), if_neg (by omega), if_neg (by omega), if_neg (by omega), if_neg (by omega), if_neg (by omega), if_pos ⟨rfl, rfl⟩]
    have t4 : T.1 a 4 q = bN (cWd S a q) := by
      rw [← hT]
      show up3 (up3 (up3 (up3 (up3 (up3 (up3 S.1 a 7 0 (nI (M + 1))) a 0 M k) a 1 M x) a 2 M (nI q)) a 3 M z) a 6 M _) a 5 hh (nI (M + 1)) a 4 q = _
      rw [up3_at, up3_at, up3_at, up3_at, up3_at, up3_at, up3_at, if_neg (by omega), if_neg (by omega), if_neg (by omega), if_neg (by omega), if_neg (by omega), if_neg (by omega), if_neg (by omega)]
      exact hw q hq
    have iw : G_XNodes_isWord O n a (nI q) T = some (bN (cWd S a q), T) := by
      unfold G_XNodes_isWord G_XNodes_isWord_25 G_XNodes_isWord_26
      rw [if_neg (nI_pos (by omega)), uI (ci := 3) hN.1 (by decide), t7, if_neg (nI_ge (by omega) (by omega)), uA (ci := 3) hN.1 (by decide), ul (ci := 3) hN.1 (by decide) q4 (by omega), t4, bN_if]
      generalize cWd S a q = b
      cases b with
      | true => exact hz_bN (b := true)
      | false => exact hz_bN (b := false)
    rw [iw, yC_some, bN_if, p249, p253, eT]
    have eT2 : ((up3 (up3 (up3 (up3 (up3 (up3 (up3 (up3 S.1 a 7 0 (nI (M + 1))) a 0 M k) a 1 M x) a 2 M (nI q)) a 3 M z) a 6 M (((up3 (up3 (up3 (up3 (up3 S.1 a 7 0 (nI (M + 1))) a 0 M k) a 1 M x) a 2 M (nI q)) a 3 M z, S.2) : qS).1 a 5 hh - 1)) a 5 hh (nI (M + 1))) a 4 M (bN (cWd S a q)), S.2) : qS) = (up3 T.1 a 4 M (bN (cWd S a q)), T.2) := by rw [← hT]
    rw [eT2]
    generalize cWd S a q = b
    cases b <;> rfl
  · rw [if_neg k9, p253, decide_eq_false k9, eT]; rfl
/-- what put does -/
theorem cls_put (hn : 7000 ≤ n) (hE : E ≤ 16) (hC : CS O a R H S E M) {k x y z : Int32} (hMR : M < R) (hL : (∀ q, q < M → ¬ rwI (S.1 a) k x y z q) → LayC S a E M k x y z) (h9 : k = 9 → ∃ q, q < M ∧ y = nI q) :
    ∃ v M' S', G_XNodes_put O n a k x y z S = some (nI v, S') ∧ v < M' ∧ M ≤ M' ∧ M' ≤ M + 1 ∧ CS O a R H S' E M' ∧ rOnly a S S' ∧ (∀ j i, j ≤ 4 → i < M → S'.1 a j i = S.1 a j i) ∧ rwI (S'.1 a) k x y z v ∧ (M' = M ∨ (M' = M + 1 ∧ S'.1 a 0 M = k)) := by
  have hC' := hC
  obtain ⟨hN, h7, hM, hS, hw, hc⟩ := hC
  have hR := hN.2.2.2.1
  have hH := hN.2.2.2.2
  obtain ⟨c1, c2⟩ := cH_eq hH k x y z
  have i5 : cH H k x y z < oN O a 5 := by rw [hN.2.2.1]; exact c1
  have e0 : G_XNodes_put O n a k x y z S = G_XNodes_put_56 O n n a k x y z (nI (cH H k x y z)) (tpF (rwH H (S.1 a)) (cH H k x y z) M) (nI M) S := by
    unfold G_XNodes_put
    rw [hB_eq, uA (ci := 3) hN.1 (by decide), un (ci := 3) hN.1 (by decide), hN.2.2.1, hB_eq]
    have : ((cMix k x y z ^^^ (((cMix k x y z).toUInt32 >>> ((13 : Int32).toUInt32 &&& Int32.toUInt32 31)).toInt32)) &&& (nI H - 1)) = nI (cH H k x y z) := c2
    unfold cMix at this
    rw [this, uA (ci := 3) hN.1 (by decide), ul (ci := 3) hN.1 (by decide) i5 (by omega), hc.1 _ c1, hB_eq, Int32.add_sub_cancel, uI (ci := 3) hN.1 (by decide), h7]
  rw [e0]
  rcases cls_put_56 (O := O) (n := n) (k := k) (x := x) (y := y) (z := z) (h6 := nI (cH H k x y z)) hC'.to0 M M n (Nat.le_refl M) (Nat.le_refl M) (by omega) (by omega) with ⟨q, hq, hr, eq⟩ | ⟨hno, eq⟩
  · exact ⟨q, M, S, eq, hq, Nat.le_refl M, Nat.le_succ M, hC', rOnly.refl, fun _ _ _ _ => rfl, hr, Or.inl rfl⟩
  · have e1 := cls_129 (O := O) (n := n) (x := x) (z := z) hC'.to0 hMR c1 h9
    have lay := hL hno
    generalize hT : newRow S a M k x y z (cH H k x y z) (bN (wFl S a M k y)) = T at e1
    have old : ∀ j i, ¬ (j ≤ 4 ∧ i = M) → j ≠ 5 → ¬ (j = 6 ∧ i = M) → j ≠ 7 → T.1 a j i = S.1 a j i := fun j i h1 h5 h6 h7 => by rw [← hT]; exact newRow_old h1 h5 h6 h7
    have ag : ∀ m, m < M → T.1 a 0 m = S.1 a 0 m ∧ T.1 a 1 m = S.1 a 1 m ∧ T.1 a 2 m = S.1 a 2 m ∧ T.1 a 3 m = S.1 a 3 m := fun m hm => ⟨old 0 m (by omega) (by decide) (by omega) (by decide), old 1 m (by omega) (by decide) (by omega) (by decide), old 2 m (by omega) (by decide) (by omega) (by decide), old 3 m (by omega) (by decide) (by omega) (by decide)⟩
    have n0 : T.1 a 0 M = k := by rw [← hT, newRow_at, if_neg (by omega), if_neg (by omega), if_neg (by omega), if_neg (by omega), if_neg (by omega), if_neg (by omega), if_pos ⟨rfl, rfl⟩]
    have n1 : T.1 a 1 M = x := by rw [← hT, newRow_at, if_neg (by omega), if_neg (by omega), if_neg (by omega), if_neg (by omega), if_neg (by omega), if_pos ⟨rfl, rfl⟩]
    have n2 : T.1 a 2 M = y := by rw [← hT, newRow_at, if_neg (by omega), if_neg (by omega), if_neg (by omega), if_neg (by omega), if_pos ⟨rfl, rfl⟩]
    have n3 : T.1 a 3 M = z := by rw [← hT, newRow_at, if_neg (by omega), if_neg (by omega), if_neg (by omega), if_pos ⟨rfl, rfl⟩]
    have n4 : T.1 a 4 M = bN (wFl S a M k y) := by rw [← hT, newRow_at, if_pos ⟨rfl, rfl⟩]
    have n7 : T.1 a 7 0 = nI (M + 1) := by rw [← hT, newRow_at, if_neg (by omega), if_neg (by omega), if_neg (by omega), if_neg (by omega), if_neg (by omega), if_neg (by omega), if_neg (by omega), if_pos ⟨rfl, rfl⟩]
    have n6 : T.1 a 6 M = S.1 a 5 (cH H k x y z) - 1 := by rw [← hT, newRow_at, if_neg (by omega), if_neg (by omega), if_pos ⟨rfl, rfl⟩]
    have n5 : ∀ hh, T.1 a 5 hh = if hh = cH H k x y z then nI (M + 1) else S.1 a 5 hh := fun hh => by
      rw [← hT, newRow_at, if_neg (by omega)]
      by_cases q : hh = cH H k x y z
      · rw [if_pos ⟨rfl, q⟩, if_pos q]
      · rw [if_neg (fun w => q w.2), if_neg q, if_neg (by omega), if_neg (by omega), if_neg (by omega), if_neg (by omega), if_neg (by omega), if_neg (by omega)]
    have rowM : rowOk (T.1 a 0) (T.1 a 1) (T.1 a 2) (T.1 a 3) E M := lay _ _ _ _ ag n0 n1 n2 n3
    have st : Store (T.1 a 0) (T.1 a 1) (T.1 a 2) (T.1 a 3) E (M + 1) := Store_snoc (Nat.le_refl E) (by omega) hS ag rowM (fun q hq e => hno q hq (by
      rw [n0, n1, n2, n3] at e; exact e))
    have wds : ∀ m, m < M → cWd T a m = cWd S a m := wd_congr hS.2.1 (by omega) (fun m hm => (ag m hm).1) (fun m hm => (ag m hm).2.2.1)
    have hh : ∀ i, i < M → rwH H (T.1 a) i = rwH H (S.1 a) i := fun i hi => by
      obtain ⟨q0, q1, q2, q3⟩ := ag i hi
      unfold rwH
      rw [q0, q1, q2, q3]
    have hM' : rwH H (T.1 a) M = cH H k x y z := by unfold rwH; rw [n0, n1, n2, n3]
    refine ⟨M, M + 1, T, by rw [eq, e1], by omega, by omega, Nat.le_refl _, ⟨hN, n7, by omega, st, fun m hm => ?_, fun h' hb => ?_, fun i hi => ?_⟩, by rw [← hT]; exact newRow_only, fun j i hj hi => old j i (by omega) (by omega) (by omega) (by omega), ⟨n0, n1, n2, n3⟩, Or.inr ⟨rfl, n0⟩⟩
    · by_cases q : m = M
      · rw [q, n4]
        congr 1
        unfold wFl
        by_cases k9 : k = 9
        · obtain ⟨p, hp, ey⟩ := h9 k9
          rw [decide_eq_true k9, Bool.true_and, ey, inN_nI (by omega) hp, Bool.true_and, nI_clamp (by omega), wd_9 st.2.1 (by omega) (by omega) (n0.trans k9) (n2.trans ey) hp, show wd (T.1 a 0) (T.1 a 2) p = cWd S a p from wds p hp, k9]
          rfl
        · rw [decide_eq_false k9, Bool.false_and, Bool.or_false, wd_n9 (by rw [n0]; exact k9), n0]
      · rw [old 4 m (by omega) (by decide) (by omega) (by decide), hw m (by omega)]
        congr 1
        exact (wds m (by omega)).symm
    · rw [n5]
      unfold tpF
      by_cases q : h' = cH H k x y z
      · rw [if_pos q, hM', if_pos q.symm, nI_1]
      · rw [if_neg q, hM', if_neg (fun w => q w.symm), hc.1 h' hb, tpF_congr (ρ := rwH H (T.1 a)) (ρ' := rwH H (S.1 a)) hh]
    · by_cases q : i = M
      · rw [q, n6, hM', hc.1 _ c1, Int32.add_sub_cancel]
        exact (tpF_congr hh).symm
      · rw [old 6 i (by omega) (by decide) (by omega) (by decide), hc.2 i (by omega), hh i (by omega)]
        exact (tpF_congr (fun j hj => hh j (by omega))).symm
end PUT
