/-! THE CLASS MAKES NODES, BY CODE -/
def MkC (O : qOb9) (a R H E : Nat) (S S' : qS) (M M' v c : Nat) : Prop := v < M' ∧ M ≤ M' ∧ M' ≤ M + 1 ∧ CS O a R H S' E M' ∧ rOnly a S S' ∧ (∀ j i, j ≤ 4 → i < M → S'.1 a j i = S.1 a j i) ∧ cCd S' a v = c ∧ ∀ m, M ≤ m → m < M' → ¬ S'.1 a 0 m ≤ 4
section CMAKE
variable {O : qOb9} {a n R H E M : Nat} {S : qS}
theorem CS_cd {S' : qS} (hC : CS O a R H S E M) (hs : ∀ j i, j ≤ 4 → i < M → S'.1 a j i = S.1 a j i) {m : Nat} (hm : m < M) : cCd S' a m = cCd S a m :=
  cd_congr (N := M) hC.2.2.2.1.2.1 (by have := hC.2.2.1; have := hC.1.2.2.2.1; omega) (fun q hq => ⟨hs 0 q (by omega) hq, hs 1 q (by omega) hq, hs 2 q (by omega) hq, hs 3 q (by omega) hq⟩) m hm
theorem CS_wd {S' : qS} (hC : CS O a R H S E M) (hs : ∀ j i, j ≤ 4 → i < M → S'.1 a j i = S.1 a j i) {m : Nat} (hm : m < M) : cWd S' a m = cWd S a m :=
  wd_congr (N := M) hC.2.2.2.1.2.1 (by have := hC.2.2.1; have := hC.1.2.2.2.1; omega) (fun q hq => hs 0 q (by omega) hq) (fun q hq => hs 2 q (by omega) hq) m hm
theorem MkC_same (hC : CS O a R H S E M) {v : Nat} (hv : v < M) : MkC O a R H E S S M M v (cCd S a v) := ⟨hv, Nat.le_refl M, Nat.le_succ M, hC, rOnly.refl, fun _ _ _ _ => rfl, rfl, fun m h1 h2 => by omega⟩
theorem CS_big (hC : CS O a R H S E M) : M < 2 ^ 31 ∧ 3 ≤ M := ⟨by have := hC.2.2.1; have := hC.1.2.2.2.1; omega, hC.2.2.2.1.1⟩
theorem newk_C {S' : qS} {M' : Nat} {k : Int32} (h : M' = M ∨ (M' = M + 1 ∧ S'.1 a 0 M = k)) (hk : ¬ k ≤ 4) : ∀ m, M ≤ m → m < M' → ¬ S'.1 a 0 m ≤ 4 := by
  intro m h1 h2
  rcases h with q | ⟨q, e⟩
  · omega
  · have : m = M := by omega
    rw [this, e]; exact hk
theorem minI {x y : Nat} (hx : x < 2 ^ 31) (hy : y < 2 ^ 31) : (if nI y < nI x then nI y else nI x) = nI (min x y) ∧ (if nI x < nI y then nI y else nI x) = nI (max x y) := by
  rcases Nat.lt_trichotomy x y with q | q | q
  · rw [if_neg (fun w => by have := (nI_ltI hy hx).mp w; omega), if_pos ((nI_ltI hx hy).mpr q), Nat.min_eq_left (by omega), Nat.max_eq_right (by omega)]
    exact ⟨rfl, rfl⟩
  · subst q
    rw [if_neg (fun w => by have := (nI_ltI hx hx).mp w; omega), Nat.min_self, Nat.max_self]
    exact ⟨rfl, rfl⟩
  · rw [if_pos ((nI_ltI hy hx).mpr q), if_neg (fun w => by have := (nI_ltI hx hy).mp w; omega), Nat.min_eq_right (by omega), Nat.max_eq_left (by omega)]
    exact ⟨rfl, rfl⟩
theorem cls_mk6 (hn : 7000 ≤ n) (hE : E ≤ 16) (hC : CS O a R H S E M) (hMR : M < R) {x y : Nat} (hx : x < M) (hy : y < M) (wx : cWd S a x = true) (wy : cWd S a y = true) :
    ∃ v M' S', G_XNodes_makeEquality O n a (nI x) (nI y) S = some (nI v, S') ∧ MkC O a R H E S S' M M' v (mkE (cCd S a x) (cCd S a y)) := by
  obtain ⟨hM, h3⟩ := CS_big hC
  unfold G_XNodes_makeEquality
  by_cases e : x = y
  · subst e
    rw [if_pos rfl, mkE_same, ← (cd_0 hC.2.2.2.1 hM hE).2.1]
    exact ⟨1, M, S, rfl, MkC_same hC (by omega)⟩
  · rw [if_neg (fun q => e ((nI_eq (by omega) (by omega)).mp q)), (minI (by omega) (by omega)).1, (minI (by omega) (by omega)).2, hB_eq, hB_eq, uk (ci := 3) hC.1.1]
    have wmin : cWd S a (min x y) = true := by rcases Nat.le_total x y with q | q; rw [Nat.min_eq_left q]; exact wx; rw [Nat.min_eq_right q]; exact wy
    have wmax : cWd S a (max x y) = true := by rcases Nat.le_total x y with q | q; rw [Nat.max_eq_right q]; exact wy; rw [Nat.max_eq_left q]; exact wx
    obtain ⟨v, M', S', p1, p2, p3, p4, p5, p6, p7, p8, p9⟩ := cls_put (O := O) (n := n) (k := 6) (x := nI (min x y)) (y := nI (max x y)) (z := -1) hn hE hC hMR (fun _ κ α β γ ag e1 e2 e3 e4 => by
      have w : ∀ m, m < M → wd κ β m = cWd S a m := wd_congr hC.2.2.2.1.2.1 hM (fun m hm => (ag m hm).1) (fun m hm => (ag m hm).2.2.1)
      exact Or.inr ⟨h3, Or.inr (Or.inr (Or.inl ⟨e1, ⟨min x y, max x y, by omega, by omega, e2, e3, by rw [w _ (by omega)]; exact wmin, by rw [w _ (by omega)]; exact wmax⟩, e4⟩))⟩) (fun q => absurd q (by decide))
    rw [p1, yC_some]
    obtain ⟨q1, q2, q3, q4⟩ := p8
    have hM' := (CS_big p5).1
    refine ⟨v, M', S', rfl, p2, p3, p4, p5, p6, p7, ?_, newk_C p9 (by decide)⟩
    rw [← CS_cd hC p7 hx, ← CS_cd hC p7 hy]
    exact mkE_row p5.2.2.2.1 hM' hE (by omega) (by omega) p2 e q1 q2 q3
theorem cls_mk7 (hn : 7000 ≤ n) (hE : E ≤ 16) (hC : CS O a R H S E M) (hMR : M < R) {x : Nat} (hx : x < M) (wx : cWd S a x = false) :
    ∃ v M' S', G_XNodes_makeNot O n a (nI x) S = some (nI v, S') ∧ MkC O a R H E S S' M M' v (mkN (cCd S a x)) := by
  obtain ⟨hM, h3⟩ := CS_big hC
  have hMR' := hC.2.2.1
  have c0 := cd_0 hC.2.2.2.1 hM hE
  unfold G_XNodes_makeNot
  by_cases e1 : x = 1
  · subst e1
    rw [if_pos (by decide), show cCd S a 1 = cT from c0.2.1, mkN_T, ← c0.1]
    exact ⟨0, M, S, rfl, MkC_same hC (by omega)⟩
  rw [if_neg (nz1 (by omega) e1)]
  by_cases e0 : x = 0
  · subst e0
    rw [if_pos (by decide), show cCd S a 0 = cF from c0.1, mkN_F, ← c0.2.1]
    exact ⟨1, M, S, rfl, MkC_same hC (by omega)⟩
  rw [if_neg (nz0 (by omega) e0), uk (ci := 3) hC.1.1, cls_has hC, yC_some, inN_nI hM hx, if_neg (show ¬ bN true = 0 by decide)]
  have x0 : x < oN O a 0 := by rw [hC.1.2.1 0 (by omega)]; omega
  have x1 : x < oN O a 1 := by rw [hC.1.2.1 1 (by omega)]; omega
  rw [uA (ci := 3) hC.1.1 (by decide), ul (ci := 3) hC.1.1 (by decide) x0 (by omega)]
  by_cases k7 : S.1 a 0 x = 7
  · obtain ⟨_, u, _, hu, _, eu, _⟩ := row_7 hC.2.2.2.1.2.1 hM hE hx k7
    rw [if_pos k7, uA (ci := 3) hC.1.1 (by decide), ul (ci := 3) hC.1.1 (by decide) x1 (by omega), eu, show mkN (cCd S a x) = cCd S a u from mkN_part hC.2.2.2.1 hM hE hx k7 eu (by omega)]
    exact ⟨u, M, S, rfl, MkC_same hC (by omega)⟩
  · rw [if_neg k7]
    unfold G_XNodes_makeNot_39
    rw [uk (ci := 3) hC.1.1]
    obtain ⟨v, M', S', p1, p2, p3, p4, p5, p6, p7, p8, p9⟩ := cls_put (O := O) (n := n) (k := 7) (x := nI x) (y := -1) (z := -1) hn hE hC hMR (fun _ κ α β γ ag e1' e2 e3 e4 => by
      have w : ∀ m, m < M → wd κ β m = cWd S a m := wd_congr hC.2.2.2.1.2.1 hM (fun m hm => (ag m hm).1) (fun m hm => (ag m hm).2.2.1)
      exact Or.inr ⟨h3, Or.inr (Or.inr (Or.inr (Or.inl ⟨e1', ⟨x, by omega, hx, e2, by rw [(ag x hx).1]; exact k7, by rw [w x hx]; exact wx⟩, e3, e4⟩)))⟩) (fun q => absurd q (by decide))
    rw [p1, yC_some]
    obtain ⟨q1, q2, q3, q4⟩ := p8
    have hM' := (CS_big p5).1
    refine ⟨v, M', S', rfl, p2, p3, p4, p5, p6, p7, ?_, newk_C p9 (by decide)⟩
    rw [← CS_cd hC p7 hx]
    exact mkN_row p5.2.2.2.1 hM' hE (by omega) p2 (by omega) (by rw [p7 0 x (by omega) hx]; exact k7) q1 q2
theorem cls_mk8 (hn : 7000 ≤ n) (hE : E ≤ 16) (hC : CS O a R H S E M) (hMR : M < R) {x y : Nat} (hx : x < M) (hy : y < M) (wx : cWd S a x = false) (wy : cWd S a y = false) :
    ∃ v M' S', G_XNodes_makeBoth O n a (nI x) (nI y) S = some (nI v, S') ∧ MkC O a R H E S S' M M' v (mkB (cCd S a x) (cCd S a y)) := by
  obtain ⟨hM, h3⟩ := CS_big hC
  have c0 := cd_0 hC.2.2.2.1 hM hE
  unfold G_XNodes_makeBoth G_XNodes_makeBoth_8 G_XNodes_makeBoth_20
  by_cases x0 : x = 0
  · subst x0
    rw [if_pos (by decide), show cCd S a 0 = cF from c0.1, mkB_F1, ← c0.1]
    exact ⟨0, M, S, rfl, MkC_same hC (by omega)⟩
  rw [if_neg (nz0 (by omega) x0)]
  by_cases y0 : y = 0
  · subst y0
    rw [if_pos (by decide), show cCd S a 0 = cF from c0.1, mkB_F2, ← c0.1]
    exact ⟨0, M, S, rfl, MkC_same hC (by omega)⟩
  rw [if_neg (nz0 (by omega) y0)]
  by_cases x1 : x = 1
  · subst x1
    rw [if_pos (by decide), show cCd S a 1 = cT from c0.2.1, mkB_T1]
    exact ⟨y, M, S, rfl, MkC_same hC hy⟩
  rw [if_neg (nz1 (by omega) x1)]
  by_cases e : x = y
  · subst e
    rw [if_pos rfl, mkB_same]
    exact ⟨x, M, S, rfl, MkC_same hC hx⟩
  rw [if_neg (fun q => e ((nI_eq (by omega) (by omega)).mp q))]
  by_cases y1 : y = 1
  · subst y1
    rw [if_pos (by decide), show cCd S a 1 = cT from c0.2.1, mkB_T2]
    exact ⟨x, M, S, rfl, MkC_same hC hx⟩
  rw [if_neg (nz1 (by omega) y1), (minI (by omega) (by omega)).1, (minI (by omega) (by omega)).2, hB_eq, hB_eq, uk (ci := 3) hC.1.1]
  have wmin : cWd S a (min x y) = false := by rcases Nat.le_total x y with q | q; rw [Nat.min_eq_left q]; exact wx; rw [Nat.min_eq_right q]; exact wy
  have wmax : cWd S a (max x y) = false := by rcases Nat.le_total x y with q | q; rw [Nat.max_eq_right q]; exact wy; rw [Nat.max_eq_left q]; exact wx
  obtain ⟨v, M', S', p1, p2, p3, p4, p5, p6, p7, p8, p9⟩ := cls_put (O := O) (n := n) (k := 8) (x := nI (min x y)) (y := nI (max x y)) (z := -1) hn hE hC hMR (fun _ κ α β γ ag e1 e2 e3 e4 => by
    have w : ∀ m, m < M → wd κ β m = cWd S a m := wd_congr hC.2.2.2.1.2.1 hM (fun m hm => (ag m hm).1) (fun m hm => (ag m hm).2.2.1)
    exact Or.inr ⟨h3, Or.inr (Or.inr (Or.inr (Or.inr (Or.inl ⟨e1, ⟨min x y, max x y, by omega, by omega, by omega, e2, e3, by rw [w _ (by omega)]; exact wmin, by rw [w _ (by omega)]; exact wmax⟩, e4⟩))))⟩) (fun q => absurd q (by decide))
  rw [p1, yC_some]
  obtain ⟨q1, q2, q3, q4⟩ := p8
  have hM' := (CS_big p5).1
  refine ⟨v, M', S', rfl, p2, p3, p4, p5, p6, p7, ?_, newk_C p9 (by decide)⟩
  rw [← CS_cd hC p7 hx, ← CS_cd hC p7 hy]
  exact mkB_row p5.2.2.2.1 hM' hE (by omega) (by omega) p2 e (by omega) (by omega) q1 q2 q3
theorem cls_mk9 (hn : 7000 ≤ n) (hE : E ≤ 16) (hC : CS O a R H S E M) (hMR : M < R) {z x y : Nat} (hz : z < M) (hx : x < M) (hy : y < M) (wz : cWd S a z = false) (we : cWd S a x = cWd S a y) :
    ∃ v M' S', G_XNodes_makeChoice O n a (nI z) (nI x) (nI y) S = some (nI v, S') ∧ MkC O a R H E S S' M M' v (mkC (cCd S a z) (cCd S a x) (cCd S a y)) := by
  obtain ⟨hM, h3⟩ := CS_big hC
  have c0 := cd_0 hC.2.2.2.1 hM hE
  unfold G_XNodes_makeChoice G_XNodes_makeChoice_10
  by_cases z1 : z = 1
  · subst z1
    rw [if_pos (by decide), show cCd S a 1 = cT from c0.2.1, mkC_T]
    exact ⟨x, M, S, rfl, MkC_same hC hx⟩
  rw [if_neg (nz1 (by omega) z1)]
  by_cases e : x = y
  · subst e
    rw [if_pos rfl, mkC_same]
    exact ⟨x, M, S, rfl, MkC_same hC hx⟩
  rw [if_neg (fun q => e ((nI_eq (by omega) (by omega)).mp q))]
  by_cases z0 : z = 0
  · subst z0
    rw [if_pos (by decide), show cCd S a 0 = cF from c0.1, mkC_F]
    exact ⟨y, M, S, rfl, MkC_same hC hy⟩
  rw [if_neg (nz0 (by omega) z0), uk (ci := 3) hC.1.1]
  obtain ⟨v, M', S', p1, p2, p3, p4, p5, p6, p7, p8, p9⟩ := cls_put (O := O) (n := n) (k := 9) (x := nI z) (y := nI x) (z := nI y) hn hE hC hMR (fun _ κ α β γ ag e1 e2 e3 e4 => by
    have w : ∀ m, m < M → wd κ β m = cWd S a m := wd_congr hC.2.2.2.1.2.1 hM (fun m hm => (ag m hm).1) (fun m hm => (ag m hm).2.2.1)
    exact Or.inr ⟨h3, Or.inr (Or.inr (Or.inr (Or.inr (Or.inr ⟨e1, z, x, y, by omega, hz, hx, hy, e, e2, e3, e4, by rw [w z hz]; exact wz, by rw [w x hx, w y hy]; exact we⟩))))⟩) (fun _ => ⟨x, hx, rfl⟩)
  rw [p1, yC_some]
  obtain ⟨q1, q2, q3, q4⟩ := p8
  have hM' := (CS_big p5).1
  refine ⟨v, M', S', rfl, p2, p3, p4, p5, p6, p7, ?_, newk_C p9 (by decide)⟩
  rw [← CS_cd hC p7 hx, ← CS_cd hC p7 hy, ← CS_cd hC p7 hz]
  exact mkC_row p5.2.2.2.1 hM' hE (by omega) (by omega) (by omega) p2 e (by omega) q1 q2 q3 q4
theorem cls_mk5 (hn : 7000 ≤ n) (hE : E ≤ 16) (hC : CS O a R H S E M) (hMR : M < R) {x g : Nat} {b : Int32} (hx : x < M) (wx : cWd S a x = true) (hg : g < 8) (hb : b = -1 ∨ ∃ y, y < M ∧ b = nI y ∧ cWd S a y = true) :
    ∃ v M' S', G_XNodes_makeApplication O n a (nI g) (nI x) b S = some (nI v, S') ∧ MkC O a R H E S S' M M' v (cA g (cCd S a x) (if b < 0 then 0 else cCd S a b.toNatClampNeg + 1)) := by
  obtain ⟨hM, h3⟩ := CS_big hC
  unfold G_XNodes_makeApplication
  rw [uk (ci := 3) hC.1.1]
  obtain ⟨v, M', S', p1, p2, p3, p4, p5, p6, p7, p8, p9⟩ := cls_put (O := O) (n := n) (k := 5) (x := nI x) (y := b) (z := nI g) hn hE hC hMR (fun _ κ α β γ ag e1 e2 e3 e4 => by
    have w : ∀ m, m < M → wd κ β m = cWd S a m := wd_congr hC.2.2.2.1.2.1 hM (fun m hm => (ag m hm).1) (fun m hm => (ag m hm).2.2.1)
    refine Or.inr ⟨h3, Or.inr (Or.inl ⟨e1, ⟨x, hx, e2, by rw [w x hx]; exact wx⟩, ?_, g, hg, e4⟩)⟩
    rcases hb with q | ⟨y, hy, q, wy⟩
    · exact Or.inl (e3.trans q)
    · exact Or.inr ⟨y, hy, e3.trans q, by rw [w y hy]; exact wy⟩) (fun q => absurd q (by decide))
  rw [p1, yC_some]
  obtain ⟨q1, q2, q3, q4⟩ := p8
  have hM' := (CS_big p5).1
  refine ⟨v, M', S', rfl, p2, p3, p4, p5, p6, p7, ?_, newk_C p9 (by decide)⟩
  rw [← CS_cd hC p7 hx]
  rcases hb with q | ⟨y, hy, q, w⟩
  · rw [q, if_pos (by decide)]
    exact mkA_row1 p5.2.2.2.1 hM' hE (by omega) p2 hg q1 q2 (q3.trans q) q4
  · rw [q, if_neg (nI_pos (by omega)), nI_clamp (by omega), ← CS_cd hC p7 hy]
    exact mkA_row2 p5.2.2.2.1 hM' hE (by omega) (by omega) p2 hg q1 q2 (q3.trans q) q4
end CMAKE
