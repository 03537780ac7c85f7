/-! THE CLASS GIVES NUMBERS -/
def puT (ν : Nat → Nat) (g a i : Nat) : Nat := if i = g then a else ν i
theorem puT_g {ν : Nat → Nat} {g a : Nat} : puT ν g a g = a := if_pos rfl
theorem puT_lo {ν : Nat → Nat} {g a i : Nat} (h : i < g) : puT ν g a i = ν i := if_neg (by omega)
/-- the strings that go on from these first numbers -/
def sub (K g : Nat) (ν v : Nat → Nat) : Prop := rgP tt1 v K ∧ ∀ i, i < g → v i = ν i
theorem rg_congr {K : Nat} {a b : Nat → Nat} (h : rgP tt1 a K) (e : ∀ i, i < K → a i = b i) : rgP tt1 b K := fun i hi hp => by
  rw [← e i hi, mxP_congr (v := a) (fun j hj _ => (e j (by omega)).symm)]
  exact h i hi hp
theorem rg_less {K g : Nat} {a : Nat → Nat} (h : rgP tt1 a K) (hg : g ≤ K) : rgP tt1 a g := fun i hi hp => h i (by omega) hp
theorem PRm_eq2 {l m : Nat} {S S' : qS} {b : Bool} {v : Nat → Nat} (h : S'.2 = S.2) (hp : PRm S l m b v) : PRm S' l m b v := by
  unfold PRm wB tB at hp ⊢
  rw [h]; exact hp
section GIVE
variable {O : qOb9} {x c u p f w q s l n r E A nw na nt I Kc : Nat} {V S0 T : qS} {lam : Nat → Nat} {ν ν' : Nat → Nat}
theorem PR_congr (h : SX O x c u p f w q s l r E A nw na nt I Kc V S0 lam) {g : Nat} (hP : PR r A (nw + na) nt l V lam T g ν) (e : ∀ i, i < g → ν i = ν' i) : PR r A (nw + na) nt l V lam T g ν' := fun m hm hd hl => PRm_congr (hP m hm hd hl) (fun t _ => nv_congr h m hm hd (fun i hi => e i (by omega)))
theorem PR_less {g g' : Nat} (hP : PR r A (nw + na) nt l V lam T g ν) (hg : g' ≤ g) : PR r A (nw + na) nt l V lam T g' ν := fun m hm hd hl => hP m hm hd (by omega)
theorem okPair_congr (h : SX O x c u p f w q s l r E A nw na nt I Kc V S0 lam) {t i j : Nat} (hj : nw ≤ j) (hji : j < i) (hi : i < nw + na) (e : ∀ k, k ≤ i → ν k = ν' k) (ho : okPair (LT r V (nw + na) nt t ν) (wlc r V i) (wlc r V j)) : okPair (LT r V (nw + na) nt t ν') (wlc r V i) (wlc r V j) := by
  have hA := h.hA
  have hA31 : A < 2 ^ 31 := by omega
  have rOk := h.hX.2.2.1.2.1
  have one : ∀ k, nw ≤ k → k ≤ i → LT r V (nw + na) nt t ν (wlc r V k) = LT r V (nw + na) nt t ν' (wlc r V k) ∧ val (LT r V (nw + na) nt t ν) (q1 (wlc r V k)) = val (LT r V (nw + na) nt t ν') (q1 (wlc r V k)) ∧ arg2 (val (LT r V (nw + na) nt t ν)) (wlc r V k) = arg2 (val (LT r V (nw + na) nt t ν')) (wlc r V k) := by
    intro k hk hki
    obtain ⟨m, hm, em, dm, _, k5⟩ := h.hR.2.2.2.2.2.1 k (by omega)
    have tm : wlc r V k = rCd V r m := by unfold wlc; rw [em, show tN (nI m) = m from nI_clamp (by omega)]
    have kk := k5 hk
    have n4 : ¬ V.1 r 3 m ≤ 4 := by rw [kk]; decide
    obtain ⟨_, a, ga, ha, hga, ea, ega, ka, qa, qga, wa, ba⟩ := app_row rOk hA31 h.hE hm kk
    have go : ∀ b, b < m → isPt (V.1 r 3) (V.1 r 4) (V.1 r 5) (V.1 r 6) m b → val (LT r V (nw + na) nt t ν) (rCd V r b) = val (LT r V (nw + na) nt t ν') (rCd V r b) := fun b hb hp => nv_congr h b (by omega) (h.hM m b hm (by omega) dm hp) (fun i' hi' => e i' (by
      have := h.hL.2.2.2.2 k m b (by omega) hm (by omega) em hp
      omega))
    refine ⟨?_, ?_, ?_⟩
    · have l1 : LT r V (nw + na) nt t ν (wlc r V k) = ν k := (LU_w (τ := tau r V nt t) (u := ν) h.hE h.hX h.hR (show k < nw + na by omega)).1
      have l2 : LT r V (nw + na) nt t ν' (wlc r V k) = ν' k := (LU_w (τ := tau r V nt t) (u := ν') h.hE h.hX h.hR (show k < nw + na by omega)).1
      rw [l1, l2]
      exact e k hki
    · rw [tm, show q1 (rCd V r m) = _ from qa]
      exact go a ha (pt_1 (by omega) n4 ea)
    · unfold arg2
      rw [tm]
      rcases ba with ⟨_, z⟩ | ⟨b, hb, eb, z, _⟩
      · rw [show q21 (rCd V r m) = 0 from z, if_pos rfl, if_pos rfl]
      · rw [show q21 (rCd V r m) = _ from z, if_neg (by omega), if_neg (by omega), Nat.add_sub_cancel]
        have g2 := go b hb (pt_2 (by omega) n4 eb)
        exact congrArg (fun y => y + 1) g2
  intro h1 h2 h3
  obtain ⟨a1, a2, a3⟩ := one i (by omega) (Nat.le_refl i)
  obtain ⟨b1, b2, b3⟩ := one j hj (by omega)
  rw [← a1, ← b1]
  exact ho h1 (by rw [a2, b2]; exact h2) (by rw [a3, b3]; exact h3)
/-- word g gets its number -/
theorem cls_number (h : SX O x c u p f w q s l r E A nw na nt I Kc V S0 lam) (hn : 7000 ≤ n) (hT : TF s l S0 T) {g : Nat} (hg : g < nw + na) (hP : PR r A (nw + na) nt l V lam T g ν) (hv : ∀ i, i < g → T.1 s 5 i = nI (ν i)) (h7 : ν g ≤ 7) {m : Nat} (hm : m < A) (em : V.1 r 26 g = nI m) :
    ∃ T2 T3, G_XPlanes_setWord O n l (nI m) (nI (ν g)) (up3 T.1 s 5 g (nI (ν g)), T.2) = some ((), T2) ∧ G_XSearch_reckonLevel O n s (nI (g + 1)) T2 = some ((), T3) ∧ TF s l S0 T3 ∧ T3.1 = up3 T.1 s 5 g (nI (ν g)) ∧ (∀ i, i < g + 1 → T3.1 s 5 i = nI (ν i)) ∧ PR r A (nw + na) nt l V lam T3 (g + 1) ν := by
  have hA := h.hA
  have hO := h.hO
  have hPl := ClO_pl hO
  have l7 := h.hR.2.2.2.1
  obtain ⟨m', hm', em', dm, k3, k5⟩ := h.hR.2.2.2.2.2.1 g hg
  have := (nI_eq (by omega) (by omega)).mp (em.symm.trans em')
  subst this
  have lm := h.hL.2.2.1 g m hg hm em
  have wm : wd (V.1 r 3) (V.1 r 5) m = true := by
    by_cases z : g < nw
    · rw [wd_n9 (by rw [k3 z]; decide), k3 z]; rfl
    · rw [wd_n9 (by rw [k5 (by omega)]; decide), k5 (by omega)]; rfl
  obtain ⟨T2, t1, t2, t3⟩ := cls_setWord (O := O) (n := n) (S := (up3 T.1 s 5 g (nI (ν g)), T.2)) hPl (show m < 5732 by omega) (show ν g < 8 by omega)
  have tf1 : TF s l S0 (up3 T.1 s 5 g (nI (ν g)), T.2) := ⟨fun o ho => by rw [up3_q ho]; exact hT.1 o ho, fun j j5 j9 j13 j14 => by rw [up3_f j5]; exact hT.2.1 j j5 j9 j13 j14, fun o ho => hT.2.2 o ho⟩
  have tf2 := tf1.pl t2
  obtain ⟨T3, r1, r2, r3, r4⟩ := cls_reckonLevel (n := n) (v := g + 1) (ν := ν) h hn (by omega) tf2 (fun m' hm' hd' hc => by
    by_cases z : lam m' ≤ g
    · have ne : m' ≠ m := fun e => by rw [e] at z; omega
      exact PRm_same t2 ne (PRm_eq2 rfl (hP m' hm' hd' z))
    · rcases hc with y | ⟨y1, y2⟩
      · omega
      · rcases node_cases h.hE h.hX hm' with a | a | a | ⟨k, _⟩ | ⟨k, _⟩ | ⟨k, _⟩ | ⟨k, _⟩
        · rw [h.hL.1 m' (Or.inl (by omega))] at y1; omega
        · rcases a with a | a
          · rw [h.hL.1 m' (Or.inl (by have := (k2_2 h.hX.2.2.1 hm').mp a; omega))] at y1; omega
          · rw [h.hL.1 m' (Or.inr a)] at y1; omega
        · have : ∃ k, k < nw + na ∧ V.1 r 26 k = nI m' := by
            rcases a with a | a
            · obtain ⟨k, hk, ek⟩ := (h.hR.2.2.2.2.2.2.1 m' hm' hd').1 a
              exact ⟨k, by omega, ek⟩
            · obtain ⟨k, _, hk, ek⟩ := (h.hR.2.2.2.2.2.2.1 m' hm' hd').2 a
              exact ⟨k, hk, ek⟩
          obtain ⟨k, hk, ek⟩ := this
          have lk := h.hL.2.2.1 k m' hk hm' ek
          have : k = g := by omega
          subst this
          have := (nI_eq (by omega) (by omega)).mp (em.symm.trans ek)
          subst this
          rw [wm]
          exact PRm_congr t3 (fun t _ => (nv_w h.hE h.hX h.hR hk ek hm').symm)
        all_goals
          rw [k] at y2
          exact absurd y2 (by decide))
  refine ⟨T2, T3, t1, r1, r2, by rw [r3, t2.1], fun i hi => ?_, r4⟩
  rw [r3, t2.1]
  by_cases z : i = g
  · subst z; exact if_pos ⟨rfl, rfl, rfl⟩
  · rw [up3_o z]
    exact hv i (by omega)
end GIVE
