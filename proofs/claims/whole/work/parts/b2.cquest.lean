/-! THE CLASS'S QUESTIONS, WHOLE -/
section CQ
variable {O : qOb9} {x c u p f w q s l n E N I : Nat} {S : qS} {eS : Nat → Bool}
/-- steps without FETCH -/
theorem nL_stp (hI : CoI O c f E N I S eS) {t fc : Nat} (ht : t = 2 ∨ t = 3) {st : Nat → Nat} (hfc : nL (fun x => ¬ x = cX) fc) (hst : ∀ e, e < E → nL (fun x => ¬ x = cX) (st e)) : ∀ e, e < E → nL (fun x => ¬ x = cX) (stpT S c f t fc st e) := by
  intro e he
  have hM31 := (CS_big hI.1).1
  have hE := hI.2.1
  unfold stpT
  by_cases z : S.1 c t e = -1
  · rw [if_pos z]; exact hst e he
  · rw [if_neg z]
    have : ∃ m, m < N ∧ S.1 c t e = nI m := by
      rcases ht with rfl | rfl
      · rcases hI.2.2.2.2.2.1 e he with y | ⟨m, hm, em, _⟩
        · exact absurd y z
        · exact ⟨m, hm, em⟩
      · rcases hI.2.2.2.2.2.2.1 e he with y | ⟨m, hm, em, _⟩
        · exact absurd y z
        · exact ⟨m, hm, em⟩
    obtain ⟨m, hm, em⟩ := this
    rw [em, show tN (nI m) = m from nI_clamp (by omega)]
    exact nL_sb hI.1.2.2.2.1.2.1 hM31 hE (fun g a b => pr_ne (by decide)) hst hfc m hm
theorem nL_st0 : ∀ e, nL (fun x => ¬ x = cX) (st0C eS e) := by
  intro e
  unfold st0C
  cases eS e with
  | true =>
    rw [if_pos rfl]
    exact nL_mk (fun _ _ => pr_ne (by decide)) (fun p hp => absurd hp (part_leaf (by rw [p1_pr]; decide)))
  | false =>
    rw [if_neg (by decide)]
    exact nL_mk (fun _ _ => pr_ne (by decide)) (fun p hp => absurd hp (part_leaf (by rw [p1_pr]; decide)))
theorem nL_itr (hI : CoI O c f E N I S eS) : ∀ (d : Nat) (st : Nat → Nat), (∀ e, e < E → nL (fun x => ¬ x = cX) (st e)) → ∀ e, e < E → nL (fun x => ¬ x = cX) (itr (stpT S c f 2 (pr 0 0)) d st e) := by
  intro d
  induction d with
  | zero => intro st hst; exact hst
  | succ d ih => intro st hst; exact ih _ (nL_stp hI (Or.inl rfl) (nL_low (by decide)) hst)
theorem nL_ivC (hI : CoI O c f E N I S eS) {k : Nat} (hk : k < I) : nL (fun x => ¬ x = cX) (ivC S c f k) := by
  have hM31 := (CS_big hI.1).1
  obtain ⟨m, hm, em, _, hh⟩ := hI.2.2.2.2.2.2.2.2.2 k hk
  unfold ivC
  rw [em, show tN (nI m) = m from nI_clamp (by omega)]
  exact nL_cd hI.1.2.2.2.1 hM31 hI.2.1 m hm hh
/-- no FETCH in a question of a run -/
theorem run_noX (hI : CoI O c f E N I S eS) {d : Nat} : ¬ Dp (rts I (ivC S c f) (snC S c E) (oneC S c f d eS) (othC S c f d eS)) cX := by
  intro h
  refine nL_leaf (L := fun x => ¬ x = cX) (nL_Dp (fun r hr => ?_) h) (by rw [p1_pr]; decide) (by rw [p1_pr]; decide) rfl
  rcases hr with ⟨e, he, rfl | rfl⟩ | ⟨k, hk, rfl⟩
  · exact nL_itr hI d _ (nL_stp hI (Or.inl rfl) (nL_low (by decide)) (fun e _ => nL_st0 e)) e (snC_iff.mp he).1
  · exact nL_stp hI (Or.inr rfl) (nL_low (by decide)) (nL_itr hI d _ (fun e _ => nL_st0 e)) e (snC_iff.mp he).1
  · exact nL_ivC hI hk
abbrev ZA (u p w q s l : Nat) (o : Nat) : Prop := o = w ∨ o = p ∨ o = q ∨ o = u ∨ o = s ∨ o = l
theorem cls_runQ (hO : ClO O x c u p f w q s l) (hn : 7000 ≤ n) (hI : CoI O c f E N I S eS) (h01 : ∀ m, S.1 p 3 m = 0 ∨ S.1 p 3 m = 1) {d : Nat} (hd : d ≤ 8) :
    ∃ S1 S' y dw dt, G_XProver_askEquation O n p c (nI d) u S = some ((), S1) ∧ G_XProver_decide O n p u S1 = some ((), S') ∧ onl (ZA u p w q s l) S S' ∧ (∀ m, S'.1 p 3 m = 0 ∨ S'.1 p 3 m = 1) ∧ S'.1 u 1 0 = y ∧ S'.1 u 2 0 = nI E ∧ S'.1 u 5 0 = nI dw ∧ S'.1 u 6 0 = nI dt ∧
      ∀ y' dw' dt' wit fet dif, Outc (Dp (rts I (ivC S c f) (snC S c E) (oneC S c f d eS) (othC S c f d eS))) (PD (Dp (rts I (ivC S c f) (snC S c E) (oneC S c f d eS) (othC S c f d eS)))) E I (ivC S c f) (snC S c E) (oneC S c f d eS) (othC S c f d eS) eS y' dw' dt' wit fet dif → y = y' ∧ dw = dw' ∧ dt = dt' ∧ (y' = 0 → (∀ a, a < E → S'.1 u 0 a = wit a) ∧ S'.1 u 3 0 = 1 ∧ S'.1 u 4 0 = dif) := by
  have hE := hI.2.1
  have hI8 := hI.2.2.2.2.2.2.2.2.1
  obtain ⟨S1, M, K, dw, dt, a1, a2, a3, a4, a5, a6, a7⟩ := cls_askEq (n := n) hO hn hI h01 hd
  have hC := a5.1
  have hM := hC.2.2.1
  have hM31 := (CS_big hC).1
  obtain ⟨k4, kE, kc, kin, kall⟩ := a6
  let el : Nat → Nat := fun i => tN (S1.1 q 2 i)
  have elE : ∀ {i a : Nat}, a < 16 → S1.1 q 2 i = nI a → el i = a := fun {i a} ha e => by
    show tN (S1.1 q 2 i) = a
    rw [e]; exact nI_clamp (by omega)
  have hQ : QCl S1 q w M K (fun i => dfc (oneC S c f d eS (el i)) (othC S c f d eS (el i))) := by
    refine ⟨k4, by omega, fun i hi => ?_⟩
    obtain ⟨v, a, hv, ha, sa, e1, e2, e3, e4, _⟩ := kc i hi
    refine ⟨v, hv, e1, ?_, e4⟩
    show cCd S1 w v = dfc (oneC S c f d eS (el i)) (othC S c f d eS (el i))
    rw [elE (by omega) e2]; exact e3
  have hDc := Clo_Dp (rts I (ivC S c f) (snC S c E) (oneC S c f d eS) (othC S c f d eS))
  have root : ∀ e, snC S c E e = true → Dp (rts I (ivC S c f) (snC S c E) (oneC S c f d eS) (othC S c f d eS)) (oneC S c f d eS e) ∧ Dp (rts I (ivC S c f) (snC S c E) (oneC S c f d eS) (othC S c f d eS)) (othC S c f d eS e) := fun e he => ⟨Dp_root (Or.inl ⟨e, he, Or.inl rfl⟩), Dp_root (Or.inl ⟨e, he, Or.inr rfl⟩)⟩
  have sel : ∀ i, i < K → snC S c E (el i) = true := fun i hi => by
    obtain ⟨v, a, hv, ha, sa, e1, e2, _⟩ := kc i hi
    rw [elE (by omega) e2]; exact sa
  obtain ⟨S', y, b1, b2, b3, b4, b5, b6, b7⟩ := cls_decide (n := n) hO hn hE a5 hI8 hQ hDc (fun k hk => Dp_root (Or.inr ⟨k, hk, rfl⟩)) (fun i hi => nL_dfc (nL_Clo hDc (root _ (sel i hi)).1 (fun _ h _ _ => h)) (nL_Clo hDc (root _ (sel i hi)).2 (fun _ h _ _ => h)))
  obtain ⟨_, _, _, _, _, u5, u6, _, _, nW, nT, u2, u3, u0⟩ := a5
  have hS : SameQ I K (ivC S c f) (fun i => dfc (oneC S c f d eS (el i)) (othC S c f d eS (el i))) (oneC S c f d eS) (othC S c f d eS) el (snC S c E) := by
    refine SameQ_run hE hC (fun e he => ?_) (fun i j hij hj => ?_) (fun i hi => ⟨sel i hi, rfl⟩) (fun e he => ?_)
    · obtain ⟨m, m', hm, hm', e1, e2, e3, e4⟩ := a7 e (snC_iff.mp he).1
      refine ⟨⟨m, hm, e1⟩, ⟨m', hm', e2⟩, ?_⟩
      rw [← e1, ← e2, cd_wc hC.2.2.2.1.2.1 hM31 hE m hm, cd_wc hC.2.2.2.1.2.1 hM31 hE m' hm']
      exact e3.trans e4.symm
    · obtain ⟨v, a, hv, ha, _, _, e2, _⟩ := kc i (by omega)
      obtain ⟨v', a', hv', ha', _, _, e2', _⟩ := kc j hj
      rw [elE (by omega) e2, elE (by omega) e2']
      exact kin i j a a' hij hj e2 e2' (by omega) (by omega)
    · rcases kall e (snC_iff.mp he).1 he with z | ⟨i, hi, ei⟩
      · exact Or.inl z
      · have := (snC_iff.mp he).1
        exact Or.inr ⟨i, hi, elE (by omega) ei⟩
  refine ⟨S1, S', y, dw, dt, a1, b1, (a2.mono (fun o ho => by rcases ho with z | z | z | z; exact Or.inl z; exact Or.inr (Or.inl z); exact Or.inr (Or.inr (Or.inl z)); exact Or.inr (Or.inr (Or.inr (Or.inl z))))).trans (b2.mono (fun o ho => by rcases ho with z | z | z | z; exact Or.inr (Or.inl z); exact Or.inr (Or.inr (Or.inr (Or.inr (Or.inl z)))); exact Or.inr (Or.inr (Or.inr (Or.inr (Or.inr z)))); exact Or.inr (Or.inr (Or.inr (Or.inl z))))), b4, b3, by rw [b5 2 (by decide) (by decide) (by decide) (by decide)]; exact u2, by rw [b5 5 (by decide) (by decide) (by decide) (by decide)]; exact u5, by rw [b5 6 (by decide) (by decide) (by decide) (by decide)]; exact u6, fun y' dw' dt' wit fet dif hR => ?_⟩
  obtain ⟨c1, c2, c3, c4⟩ := out_cmp hR nW nT b7 hS
  refine ⟨c1, c2, c3, fun hy => ?_⟩
  obtain ⟨d1, d2, d3, i, hi, d4, d5⟩ := c4 hy
  refine ⟨d1, d3 (run_noX hI), ?_⟩
  rw [d4, d5]
  obtain ⟨v, a, hv, ha, _, _, e2, _⟩ := kc i hi
  rw [elE (by omega) e2]; exact e2
theorem cls_keptQ (hO : ClO O x c u p f w q s l) (hn : 7000 ≤ n) (hI : CoI O c f E N I S eS) (h01 : ∀ m, S.1 p 3 m = 0 ∨ S.1 p 3 m = 1) {kk : Nat} (hk : kk < I) :
    ∃ S1 S' y dw dt, G_XProver_askKept O n p c (nI kk) u S = some ((), S1) ∧ G_XProver_decide O n p u S1 = some ((), S') ∧ onl (ZA u p w q s l) S S' ∧ (∀ m, S'.1 p 3 m = 0 ∨ S'.1 p 3 m = 1) ∧ S'.1 u 1 0 = y ∧ S'.1 u 2 0 = nI E ∧ S'.1 u 5 0 = nI dw ∧ S'.1 u 6 0 = nI dt ∧
      ∀ y' dw' dt' wit fet dif, Outc (Dp (rtk I (ivC S c f) (kpC S c f eS kk))) (PD (Dp (rtk I (ivC S c f) (kpC S c f eS kk)))) E I (ivC S c f) sn16 (fun _ => kpC S c f eS kk) (fun _ => cT) eS y' dw' dt' wit fet dif → y = y' ∧ dw = dw' ∧ dt = dt' ∧ (y' = 0 → (∀ a, a < E → S'.1 u 0 a = wit a) ∧ S'.1 u 3 0 = fet ∧ S'.1 u 4 0 = -1) := by
  have hE := hI.2.1
  have hI8 := hI.2.2.2.2.2.2.2.2.1
  obtain ⟨S1, M, K, dw, dt, a1, a2, a3, a4, a5, k4, a6, v0, hv0, cv0, wv0⟩ := cls_askKp (n := n) hO hn hI h01 hk
  have hC := a5.1
  have hM := hC.2.2.1
  have hM31 := (CS_big hC).1
  have hQ : QCl S1 q w M K (fun _ => mkN (kpC S c f eS kk)) := by
    refine ⟨k4, ?_, fun i hi => ?_⟩
    · rcases a6 with ⟨z, _⟩ | ⟨z, _⟩ <;> omega
    · rcases a6 with ⟨z, _⟩ | ⟨z, v, hv, _, e1, _, e3, e4⟩
      · omega
      · have : i = 0 := by omega
        subst this
        exact ⟨v, hv, e1, e3, e4⟩
  have hDc := Clo_Dp (rtk I (ivC S c f) (kpC S c f eS kk))
  obtain ⟨S', y, b1, b2, b3, b4, b5, b6, b7⟩ := cls_decide (n := n) hO hn hE a5 hI8 hQ hDc (fun k hk => Dp_root (Or.inr ⟨k, hk, rfl⟩)) (fun i hi => nL_N (nL_Clo hDc (Dp_root (Or.inl rfl)) (fun _ h _ _ => h)))
  obtain ⟨_, _, _, _, _, u5, u6, _, _, nW, nT, u2, u3, u0⟩ := a5
  have hS : SameQ I K (ivC S c f) (fun _ => mkN (kpC S c f eS kk)) (fun _ => kpC S c f eS kk) (fun _ => cT) (fun _ => 16) sn16 := by
    refine SameQ_kept hE hC ⟨v0, hv0, cv0⟩ (by rw [← cv0, cd_wc hC.2.2.2.1.2.1 hM31 hE v0 hv0]; exact wv0) ?_
    rcases a6 with ⟨z, z2⟩ | ⟨z, _⟩
    · exact Or.inl ⟨z, z2⟩
    · exact Or.inr ⟨z, rfl⟩
  refine ⟨S1, S', y, dw, dt, a1, b1, (a2.mono (fun o ho => by rcases ho with z | z | z | z; exact Or.inl z; exact Or.inr (Or.inl z); exact Or.inr (Or.inr (Or.inl z)); exact Or.inr (Or.inr (Or.inr (Or.inl z))))).trans (b2.mono (fun o ho => by rcases ho with z | z | z | z; exact Or.inr (Or.inl z); exact Or.inr (Or.inr (Or.inr (Or.inr (Or.inl z)))); exact Or.inr (Or.inr (Or.inr (Or.inr (Or.inr z)))); exact Or.inr (Or.inr (Or.inr (Or.inl z))))), b4, b3, by rw [b5 2 (by decide) (by decide) (by decide) (by decide)]; exact u2, by rw [b5 5 (by decide) (by decide) (by decide) (by decide)]; exact u5, by rw [b5 6 (by decide) (by decide) (by decide) (by decide)]; exact u6, fun y' dw' dt' wit fet dif hR => ?_⟩
  obtain ⟨c1, c2, c3, c4⟩ := out_cmp hR nW nT b7 hS
  refine ⟨c1, c2, c3, fun hy => ?_⟩
  obtain ⟨d1, d2, d3, i, hi, d4, d5⟩ := c4 hy
  refine ⟨d1, d2 rfl, ?_⟩
  rw [d4]
  rcases a6 with ⟨z, _⟩ | ⟨z, v, hv, _, _, e2, _⟩
  · omega
  · have : i = 0 := by omega
    rw [this]; exact e2
end CQ
