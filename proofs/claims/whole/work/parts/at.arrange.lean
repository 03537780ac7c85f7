/-! THE CLASS ARRANGES -/
def gC (κ D : Nat → Int32) (m : Nat) : Bool := !decide (D m = 0) && !decide (κ m ≤ 5)
def gV (κ D : Nat → Int32) (lv : Nat → Nat) (v m : Nat) : Bool := gC κ D m && decide (lv m = v)
def gL (κ D : Nat → Int32) (lv : Nat → Nat) (v m : Nat) : Bool := gC κ D m && decide (lv m < v)
theorem gC_iff {κ D : Nat → Int32} {m : Nat} : gC κ D m = true ↔ ¬ D m = 0 ∧ ¬ κ m ≤ 5 := by
  unfold gC
  rw [Bool.and_eq_true, Bool.not_eq_true', decide_eq_false_iff_not, Bool.not_eq_true', decide_eq_false_iff_not]
theorem gV_iff {κ D : Nat → Int32} {lv : Nat → Nat} {v m : Nat} : gV κ D lv v m = true ↔ gC κ D m = true ∧ lv m = v := by
  unfold gV
  rw [Bool.and_eq_true, decide_eq_true_iff]
theorem gL_s {κ D : Nat → Int32} {lv : Nat → Nat} {v : Nat} (N : Nat) : cnt (gL κ D lv (v + 1)) N = cnt (gL κ D lv v) N + cnt (gV κ D lv v) N := by
  refine cnt_or (fun m => ?_) (fun m z => ?_) N
  · unfold gL gV
    cases gC κ D m with
    | false => rfl
    | true =>
      rw [Bool.true_and, Bool.true_and, Bool.true_and]
      by_cases y : lv m < v
      · rw [decide_eq_true y, decide_eq_true (show lv m < v + 1 by omega)]; rfl
      · by_cases y2 : lv m = v
        · rw [decide_eq_true y2, decide_eq_true (show lv m < v + 1 by omega), Bool.or_true]
        · rw [decide_eq_false y, decide_eq_false y2, decide_eq_false (show ¬ lv m < v + 1 by omega)]; rfl
  · have z1 := z.1
    unfold gL at z1
    rw [Bool.and_eq_true, decide_eq_true_iff] at z1
    have := (gV_iff.mp z.2).2
    omega
theorem gL_0 {κ D : Nat → Int32} {lv : Nat → Nat} (N : Nat) : cnt (gL κ D lv 0) N = 0 := cnt_none (fun m _ => by
  unfold gL
  rw [decide_eq_false (Nat.not_lt_zero _), Bool.and_false])
theorem gL_mono {κ D : Nat → Int32} {lv : Nat → Nat} {v v' : Nat} (h : v ≤ v') (N : Nat) : cnt (gL κ D lv v) N ≤ cnt (gL κ D lv v') N := by
  induction h with
  | refl => exact Nat.le_refl _
  | step _ ih => rw [gL_s]; omega
section ARRANGE
variable {O : qOb9} {x c u p f w q s l n E M : Nat} {S T : qS} {lv : Nat → Nat}
theorem nI_add' (a b : Nat) : nI a + nI b = nI (a + b) := (Int32.ofNat_add a b).symm
theorem cls_arrange (hX : PX O x c u p f w q s l E M S) (hn : 7000 ≤ n) (hlv : ∀ m, m < M → gC (S.1 w 0) (S.1 p 3) m = true → S.1 s 6 m = nI (lv m) ∧ lv m ≤ 7) :
    ∃ S', G_XSearch_arrange O n s (p, 3) S = some ((), S') ∧ rFr s S S' (fun j => j = 7 ∨ j = 8) ∧ (∀ v, v < 9 → S'.1 s 8 v = nI (cnt (gL (S.1 w 0) (S.1 p 3) lv v) M)) ∧ ∀ m, m < M → gC (S.1 w 0) (S.1 p 3) m = true → S'.1 s 7 (cnt (gL (S.1 w 0) (S.1 p 3) lv (lv m)) M + cnt (gV (S.1 w 0) (S.1 p 3) lv (lv m)) m) = nI m := by
  obtain ⟨hO, hE, hC, ⟨hM3, hlo, hhi⟩, h01, hcl, bW, bT⟩ := hX
  have NE := fun _ : Unit => ClO_ne hO
  obtain ⟨⟨h1, h2, h3, h4, h5, h6, h7⟩, ⟨o1, o2, o3, o4, o5, o6, o7, o8, o9, o10, o11⟩, ⟨n1, n2, n3⟩, _, ⟨p3, p4, p5, p6⟩, _, ⟨s3, s4, s5, s6, s7, s8, s9⟩, _⟩ := hO
  have hM := hC.2.2.1
  generalize hκ : S.1 w 0 = κ at hlv ⊢
  generalize hD : S.1 p 3 = D at hlv ⊢
  have bc : ∀ (P : Nat → Bool) N, N ≤ M → cnt P N ≤ 5732 := fun P N hN => Nat.le_trans (cnt_le_n N) (by omega)
  have cV : ∀ v i, gC κ D i = false → cnt (gV κ D lv v) (i + 1) = cnt (gV κ D lv v) i := fun v i hg => by
    rw [cnt_s]; unfold gV; rw [hg]; rfl
  have cV1 : ∀ i, gC κ D i = true → cnt (gV κ D lv (lv i)) (i + 1) = cnt (gV κ D lv (lv i)) i + 1 := fun i hg => by
    rw [cnt_s, if_pos (gV_iff.mpr ⟨hg, rfl⟩)]
  have cV2 : ∀ v i, ¬ lv i = v → cnt (gV κ D lv v) (i + 1) = cnt (gV κ D lv v) i := fun v i hg => by
    rw [cnt_s, if_neg (fun z => hg (gV_iff.mp z).2)]; rfl
  -- from behind
  have loop3 : ∀ (i fu : Nat) (T : qS), i ≤ M → i < fu → rFr s S T (fun j => j = 7 ∨ j = 8) → (∀ v, v < 9 → T.1 s 8 v = nI (cnt (gL κ D lv v) M + cnt (gV κ D lv v) i)) → (∀ m, i ≤ m → m < M → gC κ D m = true → T.1 s 7 (cnt (gL κ D lv (lv m)) M + cnt (gV κ D lv (lv m)) m) = nI m) → ∃ S', G_XSearch_arrange_105 O n fu s (p, 3) (nI i - 1) T = some ((), S') ∧ rFr s S S' (fun j => j = 7 ∨ j = 8) ∧ (∀ v, v < 9 → S'.1 s 8 v = nI (cnt (gL κ D lv v) M)) ∧ ∀ m, m < M → gC κ D m = true → S'.1 s 7 (cnt (gL κ D lv (lv m)) M + cnt (gV κ D lv (lv m)) m) = nI m := by
    intro i
    induction i with
    | zero =>
      intro fu T _ hf hT h8 ho
      obtain ⟨fu, rfl⟩ : ∃ q, fu = q + 1 := ⟨fu - 1, by omega⟩
      rw [G_XSearch_arrange_105, if_pos (by decide)]
      exact ⟨T, rfl, hT, fun v hv => h8 v hv, fun m hm hg => ho m (Nat.zero_le m) hm hg⟩
    | succ i ih =>
      intro fu T hi hf hT h8 ho
      obtain ⟨fu, rfl⟩ : ∃ q, fu = q + 1 := ⟨fu - 1, by omega⟩
      have tw : T.1 w = S.1 w := hT.1.2 w (NE ()).2.2.1.2.1
      have tp : T.1 p = S.1 p := hT.1.2 p (NE ()).2.1.2.2.2.1
      have t6 : T.1 s 6 = S.1 s 6 := hT.2 6 (by omega)
      have ip : i < oN O p 3 := by rw [p3]; omega
      have iw : i < oN O w 0 := by rw [n2.2.1 0 (by omega)]; omega
      have i6 : i < oN O s 6 := by rw [s6]; omega
      have nx : ∀ T2 : qS, rFr s S T2 (fun j => j = 7 ∨ j = 8) → (∀ v, v < 9 → T2.1 s 8 v = nI (cnt (gL κ D lv v) M + cnt (gV κ D lv v) i)) → (∀ m, i ≤ m → m < M → gC κ D m = true → T2.1 s 7 (cnt (gL κ D lv (lv m)) M + cnt (gV κ D lv (lv m)) m) = nI m) → ∃ S', G_XSearch_arrange_160 O n (G_XSearch_arrange_105 O n fu) s (p, 3) (nI i) T2 = some ((), S') ∧ rFr s S S' (fun j => j = 7 ∨ j = 8) ∧ (∀ v, v < 9 → S'.1 s 8 v = nI (cnt (gL κ D lv v) M)) ∧ ∀ m, m < M → gC κ D m = true → S'.1 s 7 (cnt (gL κ D lv (lv m)) M + cnt (gV κ D lv (lv m)) m) = nI m := fun T2 a1 a2 a3 => by
        unfold G_XSearch_arrange_160
        rw [hB_eq, show nI i + (-1 : Int32) = nI i - 1 from (Int32.sub_eq_add_neg _ _).symm]
        exact ih fu T2 (by omega) (by omega) a1 a2 a3
      have skip : gC κ D i = false → ∃ S', G_XSearch_arrange_160 O n (G_XSearch_arrange_105 O n fu) s (p, 3) (nI i) T = some ((), S') ∧ rFr s S S' (fun j => j = 7 ∨ j = 8) ∧ (∀ v, v < 9 → S'.1 s 8 v = nI (cnt (gL κ D lv v) M)) ∧ ∀ m, m < M → gC κ D m = true → S'.1 s 7 (cnt (gL κ D lv (lv m)) M + cnt (gV κ D lv (lv m)) m) = nI m := fun hg => by
        refine nx T hT (fun v hv => by rw [h8 v hv, cV v i hg]) (fun m hm1 hm2 hgm => ?_)
        by_cases z : m = i
        · rw [z, hg] at hgm; exact absurd hgm (by decide)
        · exact ho m (by omega) hm2 hgm
      rw [nI_pred, G_XSearch_arrange_105, if_neg (nI_pos (by omega)), ul (ci := 6) h4 (by decide) ip (by omega), tp, hD]
      by_cases d0 : D i = 0
      · rw [if_pos d0]
        exact skip (by unfold gC; rw [decide_eq_true d0]; rfl)
      rw [if_neg d0, uO (ci := 8) h6 (by decide), o8, uA (ci := 3) n2.1 (by decide), ul (ci := 3) n2.1 (by decide) iw (by omega), tw, hκ]
      by_cases k5 : κ i ≤ 5
      · rw [if_pos k5]
        exact skip (by unfold gC; rw [decide_eq_true k5, Bool.not_true, Bool.and_false])
      have hg : gC κ D i = true := gC_iff.mpr ⟨d0, k5⟩
      obtain ⟨el, hl⟩ := hlv i (by omega) hg
      have v8 : lv i < oN O s 8 := by rw [s8]; omega
      have pos : cnt (gL κ D lv (lv i)) M + cnt (gV κ D lv (lv i)) i < 5732 := by
        have := gL_s (κ := κ) (D := D) (lv := lv) (v := lv i) M
        have a := bc (gL κ D lv (lv i + 1)) M (Nat.le_refl M)
        have b := cnt_lt (show i < M by omega) (gV_iff.mpr ⟨hg, rfl⟩ : gV κ D lv (lv i) i = true)
        omega
      have p7 : cnt (gL κ D lv (lv i)) M + cnt (gV κ D lv (lv i)) i < oN O s 7 := by rw [s7]; exact pos
      have ev : T.1 s 8 (lv i) = nI (cnt (gL κ D lv (lv i)) M + cnt (gV κ D lv (lv i)) i + 1) := by rw [h8 (lv i) (by omega), cV1 i hg]; rfl
      rw [if_neg k5, uA (ci := 8) h6 (by decide), uA (ci := 8) h6 (by decide), ul (ci := 8) h6 (by decide) i6 (by omega), t6, el, ul (ci := 8) h6 (by decide) v8 (by omega), ev, nI_pred, uw (ci := 8) h6 (by decide) v8 (by omega), uA (ci := 8) h6 (by decide), uA (ci := 8) h6 (by decide), uA (ci := 8) h6 (by decide), ul (ci := 8) h6 (by decide) i6 (by omega), up3_f (by decide), t6, el, ul (ci := 8) h6 (by decide) v8 (by omega), up3_v, uw (ci := 8) h6 (by decide) p7 (by omega)]
      refine nx _ ((hT.up (Or.inr rfl)).up (Or.inl rfl)) (fun v hv => ?_) (fun m hm1 hm2 hgm => ?_)
      · rw [up3_f (by decide)]
        by_cases z : v = lv i
        · subst z; exact up3_v
        · rw [up3_o z, h8 v hv, cV2 v i (fun y => z y.symm)]
      · by_cases z : m = i
        · subst z; exact up3_v
        · have hlt : i < m := by omega
          have ne : cnt (gL κ D lv (lv m)) M + cnt (gV κ D lv (lv m)) m ≠ cnt (gL κ D lv (lv i)) M + cnt (gV κ D lv (lv i)) i := by
            have b := cnt_lt (show i < M by omega) (gV_iff.mpr ⟨hg, rfl⟩ : gV κ D lv (lv i) i = true)
            have b' := cnt_lt hm2 (gV_iff.mpr ⟨hgm, rfl⟩ : gV κ D lv (lv m) m = true)
            have e1 := gL_s (κ := κ) (D := D) (lv := lv) (v := lv i) M
            have e2 := gL_s (κ := κ) (D := D) (lv := lv) (v := lv m) M
            by_cases y : lv m = lv i
            · rw [y]
              have := cnt_lt hlt (gV_iff.mpr ⟨hg, rfl⟩ : gV κ D lv (lv i) i = true)
              omega
            · by_cases y2 : lv m < lv i
              · have := gL_mono (κ := κ) (D := D) (lv := lv) (show lv m + 1 ≤ lv i by omega) M
                omega
              · have := gL_mono (κ := κ) (D := D) (lv := lv) (show lv i + 1 ≤ lv m by omega) M
                omega
          rw [up3_o ne, up3_f (by decide)]
          exact ho m (by omega) hm2 hgm
  -- sums
  have loop2 : ∀ (d L fu : Nat) (T : qS), L + d = 9 → 1 ≤ L → d < fu → rFr s S T (fun j => j = 7 ∨ j = 8) → (∀ v, v < L → T.1 s 8 v = nI (cnt (gL κ D lv (v + 1)) M)) → (∀ v, L ≤ v → v < 9 → T.1 s 8 v = nI (cnt (gV κ D lv v) M)) → ∃ S', G_XSearch_arrange_63 O n fu s (p, 3) (nI L) T = some ((), S') ∧ rFr s S S' (fun j => j = 7 ∨ j = 8) ∧ (∀ v, v < 9 → S'.1 s 8 v = nI (cnt (gL κ D lv v) M)) ∧ ∀ m, m < M → gC κ D m = true → S'.1 s 7 (cnt (gL κ D lv (lv m)) M + cnt (gV κ D lv (lv m)) m) = nI m := by
    intro d
    induction d with
    | zero =>
      intro L fu T e hL hf hT hlo' hhi'
      obtain ⟨fu, rfl⟩ : ∃ q, fu = q + 1 := ⟨fu - 1, by omega⟩
      have e9 : L = 9 := by omega
      subst e9
      have tw : T.1 w = S.1 w := hT.1.2 w (NE ()).2.2.1.2.1
      rw [G_XSearch_arrange_63, uA (ci := 8) h6 (by decide), un (ci := 8) h6 (by decide), s8, if_pos (nI_le (by omega) (by omega)), uO (ci := 8) h6 (by decide), o8, uI (ci := 3) n2.1 (by decide), tw, hC.2.1, hB_eq]
      exact loop3 M n T (Nat.le_refl M) (by omega) hT (fun v hv => by rw [hlo' v hv, gL_s]) (fun m h1 h2 => by omega)
    | succ d ih =>
      intro L fu T e hL hf hT hlo' hhi'
      obtain ⟨fu, rfl⟩ : ∃ q, fu = q + 1 := ⟨fu - 1, by omega⟩
      obtain ⟨L, rfl⟩ : ∃ q, L = q + 1 := ⟨L - 1, by omega⟩
      have l8 : L + 1 < oN O s 8 := by rw [s8]; omega
      have l8' : L < oN O s 8 := by rw [s8]; omega
      rw [G_XSearch_arrange_63, uA (ci := 8) h6 (by decide), un (ci := 8) h6 (by decide), s8, if_neg (nI_ge (by omega) (by omega)), uA (ci := 8) h6 (by decide), ul (ci := 8) h6 (by decide) l8 (by omega), uA (ci := 8) h6 (by decide), nI_pred, ul (ci := 8) h6 (by decide) l8' (by omega), uw (ci := 8) h6 (by decide) l8 (by omega), hB_eq, nI_1, hhi' (L + 1) (by omega) (by omega), hlo' L (by omega), nI_add']
      refine ih (L + 1 + 1) fu _ (by omega) (by omega) (by omega) (hT.up (Or.inr rfl)) (fun v hv => ?_) (fun v hv1 hv2 => ?_)
      · by_cases z : v = L + 1
        · subst z
          rw [up3_v, gL_s (v := L + 1)]
          exact congrArg nI (Nat.add_comm _ _)
        · rw [up3_o z]; exact hlo' v (by omega)
      · rw [up3_o (by omega)]; exact hhi' v (by omega) hv2
  -- counts
  have loop1 : ∀ (d i fu : Nat) (T : qS), i + d = M → d < fu → rFr s S T (fun j => j = 7 ∨ j = 8) → (∀ v, v < 9 → T.1 s 8 v = nI (cnt (gV κ D lv v) i)) → ∃ S', G_XSearch_arrange_10 O n fu s (p, 3) (nI i) T = some ((), S') ∧ rFr s S S' (fun j => j = 7 ∨ j = 8) ∧ (∀ v, v < 9 → S'.1 s 8 v = nI (cnt (gL κ D lv v) M)) ∧ ∀ m, m < M → gC κ D m = true → S'.1 s 7 (cnt (gL κ D lv (lv m)) M + cnt (gV κ D lv (lv m)) m) = nI m := by
    intro d
    induction d with
    | zero =>
      intro i fu T e hf hT h8
      obtain ⟨fu, rfl⟩ : ∃ q, fu = q + 1 := ⟨fu - 1, by omega⟩
      have e0 : i = M := by omega
      subst e0
      have tw : T.1 w = S.1 w := hT.1.2 w (NE ()).2.2.1.2.1
      rw [G_XSearch_arrange_10, uO (ci := 8) h6 (by decide), o8, uI (ci := 3) n2.1 (by decide), tw, hC.2.1, if_pos (nI_le (by omega) (by omega))]
      refine loop2 8 1 n T (by omega) (by omega) (by omega) hT (fun v hv => ?_) (fun v _ hv => h8 v hv)
      have : v = 0 := by omega
      subst this
      rw [h8 0 (by omega), gL_s, gL_0, Nat.zero_add]
    | succ d ih =>
      intro i fu T e hf hT h8
      obtain ⟨fu, rfl⟩ : ∃ q, fu = q + 1 := ⟨fu - 1, by omega⟩
      have tw : T.1 w = S.1 w := hT.1.2 w (NE ()).2.2.1.2.1
      have tp : T.1 p = S.1 p := hT.1.2 p (NE ()).2.1.2.2.2.1
      have t6 : T.1 s 6 = S.1 s 6 := hT.2 6 (by omega)
      have ip : i < oN O p 3 := by rw [p3]; omega
      have iw : i < oN O w 0 := by rw [n2.2.1 0 (by omega)]; omega
      have i6 : i < oN O s 6 := by rw [s6]; omega
      have skip : gC κ D i = false → ∃ S', G_XSearch_arrange_55 O n (G_XSearch_arrange_10 O n fu) s (p, 3) (nI i) T = some ((), S') ∧ rFr s S S' (fun j => j = 7 ∨ j = 8) ∧ (∀ v, v < 9 → S'.1 s 8 v = nI (cnt (gL κ D lv v) M)) ∧ ∀ m, m < M → gC κ D m = true → S'.1 s 7 (cnt (gL κ D lv (lv m)) M + cnt (gV κ D lv (lv m)) m) = nI m := fun hg => by
        unfold G_XSearch_arrange_55
        rw [hB_eq, nI_1]
        exact ih (i + 1) fu T (by omega) (by omega) hT (fun v hv => by rw [h8 v hv, cV v i hg])
      rw [G_XSearch_arrange_10, uO (ci := 8) h6 (by decide), o8, uI (ci := 3) n2.1 (by decide), tw, hC.2.1, if_neg (nI_ge (by omega) (by omega)), ul (ci := 6) h4 (by decide) ip (by omega), tp, hD]
      by_cases d0 : D i = 0
      · rw [if_pos d0]
        exact skip (by unfold gC; rw [decide_eq_true d0]; rfl)
      rw [if_neg d0, uO (ci := 8) h6 (by decide), o8, uA (ci := 3) n2.1 (by decide), ul (ci := 3) n2.1 (by decide) iw (by omega), tw, hκ]
      by_cases k5 : κ i ≤ 5
      · rw [if_pos k5]
        exact skip (by unfold gC; rw [decide_eq_true k5, Bool.not_true, Bool.and_false])
      have hg : gC κ D i = true := gC_iff.mpr ⟨d0, k5⟩
      obtain ⟨el, hl⟩ := hlv i (by omega) hg
      have v8 : lv i < oN O s 8 := by rw [s8]; omega
      rw [if_neg k5, uA (ci := 8) h6 (by decide), uA (ci := 8) h6 (by decide), ul (ci := 8) h6 (by decide) i6 (by omega), t6, el, ul (ci := 8) h6 (by decide) v8 (by omega), h8 (lv i) (by omega), nI_1, uw (ci := 8) h6 (by decide) v8 (by omega)]
      unfold G_XSearch_arrange_55
      rw [hB_eq, nI_1]
      refine ih (i + 1) fu _ (by omega) (by omega) (hT.up (Or.inr rfl)) (fun v hv => ?_)
      by_cases z : v = lv i
      · subst z; rw [up3_v, cV1 i hg]
      · rw [up3_o z, h8 v hv, cV2 v i (fun y => z y.symm)]
  unfold G_XSearch_arrange
  rw [uA (ci := 8) h6 (by decide), cls_fill (ci := 8) h6 (by decide) s8 (by omega) (by omega), yV_some]
  have := loop1 M 0 n (setF S s 8 (fun i => if i < 9 then 0 else S.1 s 8 i)) (by omega) (by omega) ⟨setF_only, fun j hj => setF_ne (fun z => hj (Or.inr z))⟩ (fun v hv => by
    rw [setF_same]
    show (if v < 9 then (0 : Int32) else S.1 s 8 v) = _
    rw [if_pos hv]; rfl)
  rw [nI_0] at this
  exact this
end ARRANGE
