/-! THE CLASS'S SEARCH: its setting -/
def SX (O : qOb9) (x c u p f w q s l r E A nw na nt I Kc : Nat) (V S0 : qS) (lam : Nat → Nat) : Prop :=
  (ClO O x c u p f w q s l) ∧
  (E ≤ 16) ∧
  (Ext r V E A) ∧
  (A ≤ 5732) ∧
  (MClo r A V) ∧
  (RL r A nw na nt V) ∧
  (Lam r A nw na V lam) ∧
  (S0.1 w 0 = V.1 r 3) ∧
  (S0.1 w 1 = V.1 r 4) ∧
  (S0.1 w 2 = V.1 r 5) ∧
  (S0.1 w 3 = V.1 r 6) ∧
  (∀ m, m < A → S0.1 w 4 m = bN (wd (V.1 r 3) (V.1 r 5) m)) ∧
  (∀ k, k < nw + na → S0.1 s 4 k = V.1 r 26 k) ∧
  (S0.1 s 11 0 = nI (nw + na)) ∧
  (S0.1 s 12 0 = nI nw) ∧
  (∃ σ : Nat → Nat, (∀ v, v ≤ 8 → S0.1 s 8 v = nI (σ v)) ∧ (∀ v, v < 8 → σ v ≤ σ (v + 1)) ∧ σ 8 ≤ 5732 ∧ (∀ v i, v < 8 → σ v ≤ i → i < σ (v + 1) → ∃ m, m < A ∧ dpN V r m ∧ ¬ V.1 r 3 m ≤ 5 ∧ lam m = v ∧ S0.1 s 7 i = nI m) ∧ (∀ v i j m m', v < 8 → σ v ≤ i → i < j → j < σ (v + 1) → S0.1 s 7 i = nI m → S0.1 s 7 j = nI m' → m < A → m' < A → m < m') ∧ ∀ m, m < A → dpN V r m → ¬ V.1 r 3 m ≤ 5 → ∃ i, σ (lam m) ≤ i ∧ i < σ (lam m + 1) ∧ S0.1 s 7 i = nI m) ∧
  (S0.1 q 3 0 = nI I) ∧
  (I ≤ 8) ∧
  (∀ k, k < I → ∃ m, m < A ∧ S0.1 q 0 k = nI m ∧ dpN V r m ∧ wd (V.1 r 3) (V.1 r 5) m = false ∧ S0.1 s 6 m = nI (lam m)) ∧
  (S0.1 q 4 0 = nI Kc) ∧
  (Kc ≤ 16) ∧
  (1 ≤ Kc) ∧
  (∀ i, i < Kc → ∃ m, m < A ∧ S0.1 q 1 i = nI m ∧ dpN V r m ∧ wd (V.1 r 3) (V.1 r 5) m = false)
section SXP
variable {O : qOb9} {x c u p f w q s l r E A nw na nt I Kc : Nat} {V S0 : qS} {lam : Nat → Nat}
theorem SX.hO (h : SX O x c u p f w q s l r E A nw na nt I Kc V S0 lam) : ClO O x c u p f w q s l := h.1
theorem SX.hE (h : SX O x c u p f w q s l r E A nw na nt I Kc V S0 lam) : E ≤ 16 := h.2.1
theorem SX.hX (h : SX O x c u p f w q s l r E A nw na nt I Kc V S0 lam) : Ext r V E A := h.2.2.1
theorem SX.hA (h : SX O x c u p f w q s l r E A nw na nt I Kc V S0 lam) : A ≤ 5732 := h.2.2.2.1
theorem SX.hM (h : SX O x c u p f w q s l r E A nw na nt I Kc V S0 lam) : MClo r A V := h.2.2.2.2.1
theorem SX.hR (h : SX O x c u p f w q s l r E A nw na nt I Kc V S0 lam) : RL r A nw na nt V := h.2.2.2.2.2.1
theorem SX.hL (h : SX O x c u p f w q s l r E A nw na nt I Kc V S0 lam) : Lam r A nw na V lam := h.2.2.2.2.2.2.1
theorem SX.rw0 (h : SX O x c u p f w q s l r E A nw na nt I Kc V S0 lam) : S0.1 w 0 = V.1 r 3 := h.2.2.2.2.2.2.2.1
theorem SX.rw1 (h : SX O x c u p f w q s l r E A nw na nt I Kc V S0 lam) : S0.1 w 1 = V.1 r 4 := h.2.2.2.2.2.2.2.2.1
theorem SX.rw2 (h : SX O x c u p f w q s l r E A nw na nt I Kc V S0 lam) : S0.1 w 2 = V.1 r 5 := h.2.2.2.2.2.2.2.2.2.1
theorem SX.rw3 (h : SX O x c u p f w q s l r E A nw na nt I Kc V S0 lam) : S0.1 w 3 = V.1 r 6 := h.2.2.2.2.2.2.2.2.2.2.1
theorem SX.wds (h : SX O x c u p f w q s l r E A nw na nt I Kc V S0 lam) : ∀ m, m < A → S0.1 w 4 m = bN (wd (V.1 r 3) (V.1 r 5) m) := h.2.2.2.2.2.2.2.2.2.2.2.1
theorem SX.lw (h : SX O x c u p f w q s l r E A nw na nt I Kc V S0 lam) : ∀ k, k < nw + na → S0.1 s 4 k = V.1 r 26 k := h.2.2.2.2.2.2.2.2.2.2.2.2.1
theorem SX.c11 (h : SX O x c u p f w q s l r E A nw na nt I Kc V S0 lam) : S0.1 s 11 0 = nI (nw + na) := h.2.2.2.2.2.2.2.2.2.2.2.2.2.1
theorem SX.c12 (h : SX O x c u p f w q s l r E A nw na nt I Kc V S0 lam) : S0.1 s 12 0 = nI nw := h.2.2.2.2.2.2.2.2.2.2.2.2.2.2.1
theorem SX.ord (h : SX O x c u p f w q s l r E A nw na nt I Kc V S0 lam) : ∃ σ : Nat → Nat, (∀ v, v ≤ 8 → S0.1 s 8 v = nI (σ v)) ∧ (∀ v, v < 8 → σ v ≤ σ (v + 1)) ∧ σ 8 ≤ 5732 ∧ (∀ v i, v < 8 → σ v ≤ i → i < σ (v + 1) → ∃ m, m < A ∧ dpN V r m ∧ ¬ V.1 r 3 m ≤ 5 ∧ lam m = v ∧ S0.1 s 7 i = nI m) ∧ (∀ v i j m m', v < 8 → σ v ≤ i → i < j → j < σ (v + 1) → S0.1 s 7 i = nI m → S0.1 s 7 j = nI m' → m < A → m' < A → m < m') ∧ ∀ m, m < A → dpN V r m → ¬ V.1 r 3 m ≤ 5 → ∃ i, σ (lam m) ≤ i ∧ i < σ (lam m + 1) ∧ S0.1 s 7 i = nI m := h.2.2.2.2.2.2.2.2.2.2.2.2.2.2.2.1
theorem SX.q3 (h : SX O x c u p f w q s l r E A nw na nt I Kc V S0 lam) : S0.1 q 3 0 = nI I := h.2.2.2.2.2.2.2.2.2.2.2.2.2.2.2.2.1
theorem SX.hI (h : SX O x c u p f w q s l r E A nw na nt I Kc V S0 lam) : I ≤ 8 := h.2.2.2.2.2.2.2.2.2.2.2.2.2.2.2.2.2.1
theorem SX.inv (h : SX O x c u p f w q s l r E A nw na nt I Kc V S0 lam) : ∀ k, k < I → ∃ m, m < A ∧ S0.1 q 0 k = nI m ∧ dpN V r m ∧ wd (V.1 r 3) (V.1 r 5) m = false ∧ S0.1 s 6 m = nI (lam m) := h.2.2.2.2.2.2.2.2.2.2.2.2.2.2.2.2.2.2.1
theorem SX.q4 (h : SX O x c u p f w q s l r E A nw na nt I Kc V S0 lam) : S0.1 q 4 0 = nI Kc := h.2.2.2.2.2.2.2.2.2.2.2.2.2.2.2.2.2.2.2.1
theorem SX.hK (h : SX O x c u p f w q s l r E A nw na nt I Kc V S0 lam) : Kc ≤ 16 := h.2.2.2.2.2.2.2.2.2.2.2.2.2.2.2.2.2.2.2.2.1
theorem SX.hK1 (h : SX O x c u p f w q s l r E A nw na nt I Kc V S0 lam) : 1 ≤ Kc := h.2.2.2.2.2.2.2.2.2.2.2.2.2.2.2.2.2.2.2.2.2.1
theorem SX.clm (h : SX O x c u p f w q s l r E A nw na nt I Kc V S0 lam) : ∀ i, i < Kc → ∃ m, m < A ∧ S0.1 q 1 i = nI m ∧ dpN V r m ∧ wd (V.1 r 3) (V.1 r 5) m = false := h.2.2.2.2.2.2.2.2.2.2.2.2.2.2.2.2.2.2.2.2.2.2
end SXP
/-- what the search may change -/
def TF (s l : Nat) (S0 T : qS) : Prop := (∀ o, o ≠ s → T.1 o = S0.1 o) ∧ (∀ j, j ≠ 5 → j ≠ 9 → j ≠ 13 → j ≠ 14 → T.1 s j = S0.1 s j) ∧ ∀ o, o ≠ l → T.2 o = S0.2 o
theorem TF.pl {s l m : Nat} {S0 T T' : qS} (h : TF s l S0 T) (h' : plO l m T T') : TF s l S0 T' := by
  refine ⟨fun o ho => by rw [h'.1]; exact h.1 o ho, fun j a b c d => by rw [h'.1]; exact h.2.1 j a b c d, fun o ho => ?_⟩
  rw [← h.2.2 o ho]
  funext j i
  exact h'.2 o j i (fun q => ho q.1)
/-- the planes are right up to this level -/
def PR (r A K nt l : Nat) (V : qS) (lam : Nat → Nat) (T : qS) (g : Nat) (u : Nat → Nat) : Prop := ∀ m, m < A → dpN V r m → lam m ≤ g → PRm T l m (wd (V.1 r 3) (V.1 r 5) m) (fun t => nv r V K nt t u m)
section RECKON
variable {O : qOb9} {x c u p f w q s l n r E A nw na nt I Kc : Nat} {V S0 T : qS} {lam : Nat → Nat} {ν : Nat → Nat}
/-- a node's value looks at words below its level -/
theorem nv_congr (h : SX O x c u p f w q s l r E A nw na nt I Kc V S0 lam) {t : Nat} {ν' : Nat → Nat} : ∀ m, m < A → dpN V r m → (∀ i, i < lam m → ν i = ν' i) → nv r V (nw + na) nt t ν m = nv r V (nw + na) nt t ν' m := by
  have hA := h.hA
  intro m
  induction m using Nat.strongRecOn with
  | ind m ih =>
    intro hm hd hag
    have go : ∀ q, q < m → ¬ V.1 r 3 m ≤ 5 → isPt (V.1 r 3) (V.1 r 4) (V.1 r 5) (V.1 r 6) m q → nv r V (nw + na) nt t ν q = nv r V (nw + na) nt t ν' q := fun q hq hk hp => ih q hq (by omega) (h.hM m q hm (by omega) hd hp) (fun i hi => hag i (Nat.lt_of_lt_of_le hi (h.hL.2.2.2.1 m q hm (by omega) hd hk hp)))
    rcases node_cases h.hE h.hX hm with z | z | z | ⟨k, a, b, ha, hb, e1, e2, _⟩ | ⟨k, a, ha, e1, _⟩ | ⟨k, a, b, ha, hb, e1, e2, _⟩ | ⟨k, a, b, d, ha, hb, hdd, e1, e2, e3, _⟩
    · rcases (show m = 0 ∨ m = 1 by omega) with e | e <;> subst e
      · rw [(nv_lo h.hE h.hX).1, (nv_lo h.hE h.hX).1]
      · rw [(nv_lo h.hE h.hX).2, (nv_lo h.hE h.hX).2]
    · obtain ⟨k, hk, ek⟩ := h.hR.2.2.2.2.2.2.2.2.2.1 m hm hd z.symm
      rw [nv_t h.hE h.hX h.hR hk ek hm, nv_t h.hE h.hX h.hR hk ek hm]
    · have : ∃ k, k < nw + na ∧ V.1 r 26 k = nI m := by
        rcases z with z | z
        · obtain ⟨k, hk, ek⟩ := (h.hR.2.2.2.2.2.2.1 m hm hd).1 z
          exact ⟨k, by omega, ek⟩
        · obtain ⟨k, _, hk, ek⟩ := (h.hR.2.2.2.2.2.2.1 m hm hd).2 z
          exact ⟨k, hk, ek⟩
      obtain ⟨k, hk, ek⟩ := this
      rw [nv_w h.hE h.hX h.hR hk ek hm, nv_w h.hE h.hX h.hR hk ek hm]
      exact hag k (by rw [h.hL.2.2.1 k m hk hm ek]; omega)
    · have n5 : ¬ V.1 r 3 m ≤ 5 := by rw [k]; decide
      have n4 : ¬ V.1 r 3 m ≤ 4 := by rw [k]; decide
      rw [nv_6 h.hE h.hX hm k e1 e2 (by omega) (by omega), nv_6 h.hE h.hX hm k e1 e2 (by omega) (by omega), go a ha n5 (pt_1 (by omega) n4 e1), go b hb n5 (pt_2 (by omega) n4 e2)]
    · have n5 : ¬ V.1 r 3 m ≤ 5 := by rw [k]; decide
      have n4 : ¬ V.1 r 3 m ≤ 4 := by rw [k]; decide
      rw [nv_7 h.hE h.hX hm k e1 (by omega), nv_7 h.hE h.hX hm k e1 (by omega), go a ha n5 (pt_1 (by omega) n4 e1)]
    · have n5 : ¬ V.1 r 3 m ≤ 5 := by rw [k]; decide
      have n4 : ¬ V.1 r 3 m ≤ 4 := by rw [k]; decide
      rw [nv_8 h.hE h.hX hm k e1 e2 (by omega) (by omega), nv_8 h.hE h.hX hm k e1 e2 (by omega) (by omega), go a ha n5 (pt_1 (by omega) n4 e1), go b hb n5 (pt_2 (by omega) n4 e2)]
    · have n5 : ¬ V.1 r 3 m ≤ 5 := by rw [k]; decide
      have n4 : ¬ V.1 r 3 m ≤ 4 := by rw [k]; decide
      rw [nv_9 h.hE h.hX hm k e1 e2 e3 (by omega) (by omega) (by omega), nv_9 h.hE h.hX hm k e1 e2 e3 (by omega) (by omega) (by omega), go a ha n5 (pt_1 (by omega) n4 e1), go b hb n5 (pt_2 (by omega) n4 e2), go d hdd n5 (pt_3 (by omega) k e3)]
theorem cls_reckon (h : SX O x c u p f w q s l r E A nw na nt I Kc V S0 lam) (hT : TF s l S0 T) {m : Nat} (hm : m < A) (hk : ¬ V.1 r 3 m ≤ 5) (hp : ∀ q, q < m → isPt (V.1 r 3) (V.1 r 4) (V.1 r 5) (V.1 r 6) m q → PRm T l q (wd (V.1 r 3) (V.1 r 5) q) (fun t => nv r V (nw + na) nt t ν q)) :
    ∃ T', G_XPlanes_reckon O n l (nI m) T = some ((), T') ∧ plO l m T T' ∧ PRm T' l m (wd (V.1 r 3) (V.1 r 5) m) (fun t => nv r V (nw + na) nt t ν m) := by
  have hA := h.hA
  have hP := ClO_pl h.hO
  have hP' := hP
  have NE := fun _ : Unit => ClO_ne h.hO
  obtain ⟨h7, o11, a1, a2, a3, n2, wl⟩ := hP
  have tw : T.1 w = S0.1 w := hT.1 w (NE ()).2.2.1.2.1
  have m0 : m < oN O w 0 := by rw [n2.2.1 0 (by omega)]; omega
  have m1 : m < oN O w 1 := by rw [n2.2.1 1 (by omega)]; omega
  have m2 : m < oN O w 2 := by rw [n2.2.1 2 (by omega)]; omega
  have m3 : m < oN O w 3 := by rw [n2.2.1 3 (by omega)]; omega
  have n4 : ¬ V.1 r 3 m ≤ 4 := fun z => hk (Int32.le_trans z (by decide))
  unfold G_XPlanes_reckon G_XPlanes_reckon_140
  rw [uO (ci := 5) h7 (by decide), o11, uA (ci := 3) n2.1 (by decide), ul (ci := 3) n2.1 (by decide) m1 (by omega), uO (ci := 5) h7 (by decide), o11, uA (ci := 3) n2.1 (by decide), ul (ci := 3) n2.1 (by decide) m2 (by omega), uO (ci := 5) h7 (by decide), o11, uA (ci := 3) n2.1 (by decide), ul (ci := 3) n2.1 (by decide) m0 (by omega), tw, h.rw0, h.rw1, h.rw2]
  have x1 : ∀ (F : Nat → Nat → Nat → Int64) (v : Int64) (j : Nat), up3 F l j m v l j m = v := fun F v j => if_pos ⟨rfl, rfl, rfl⟩
  have wf : ¬ V.1 r 3 m = 9 → wd (V.1 r 3) (V.1 r 5) m = false := fun k9 => by
    rw [wd_n9 k9, decide_eq_false (fun z => hk (by rw [z]; decide)), decide_eq_false (fun z => hk (by rw [z]; decide))]; rfl
  rcases node_cases h.hE h.hX hm with z | z | z | ⟨k, a, b, ha, hb, e1, e2, w1, w2⟩ | ⟨k, a, ha, e1, w1⟩ | ⟨k, a, b, ha, hb, e1, e2, w1, w2⟩ | ⟨k, a, b, d, ha, hb, hd, e1, e2, e3, w1, w2⟩
  · exfalso
    rcases h.hX.2.2.1.2.1 m hm with ⟨h0, z', _⟩ | ⟨h3, _⟩
    · rw [z'] at hk
      exact hk (nI_le (b := 5) (by omega) (by decide))
    · omega
  · rcases z with z | z <;> rw [z] at hk <;> exact absurd (by decide) hk
  · rcases z with z | z <;> rw [z] at hk <;> exact absurd (by decide) hk
  · have pa := hp a ha (pt_1 (by omega) n4 e1)
    have pb := hp b hb (pt_2 (by omega) n4 e2)
    rw [w1] at pa
    rw [w2] at pb
    obtain ⟨y, ey, hy⟩ := cls_same (O := O) (n := n) hP' (show a < 5732 by omega) (show b < 5732 by omega) pa pb
    rw [k, if_pos rfl, uA (ci := 5) h7 (by decide), uk (ci := 5) h7, e1, e2, ey, yC_some, uwL (ci := 5) h7 (by decide) (by rw [a1]; omega) (by omega)]
    refine ⟨_, rfl, plO.up, fun t ht => ?_⟩
    rw [wf (by rw [k]; decide), if_neg (by decide)]
    show b1 (bt (up3 T.2 l 1 m y l 1 m) t) = nv r V (nw + na) nt t ν m
    rw [x1, hy t ht, nv_6 h.hE h.hX hm k e1 e2 (by omega) (by omega)]
    by_cases z : nv r V (nw + na) nt t ν a = nv r V (nw + na) nt t ν b
    · rw [decide_eq_true z, if_pos z]; rfl
    · rw [decide_eq_false z, if_neg z]; rfl
  · have pa := hp a ha (pt_1 (by omega) n4 e1)
    rw [w1] at pa
    rw [k, if_neg (by decide), if_pos rfl, uA (ci := 5) h7 (by decide), uA (ci := 5) h7 (by decide), e1, ulL (ci := 5) h7 (by decide) (by rw [a1]; omega) (by omega), uwL (ci := 5) h7 (by decide) (by rw [a1]; omega) (by omega)]
    refine ⟨_, rfl, plO.up, fun t ht => ?_⟩
    have qa := pa t ht
    rw [if_neg (by decide)] at qa
    rw [wf (by rw [k]; decide), if_neg (by decide)]
    show b1 (bt (up3 T.2 l 1 m _ l 1 m) t) = nv r V (nw + na) nt t ν m
    rw [x1, bt_not _ ht, nv_7 h.hE h.hX hm k e1 (by omega)]
    unfold tB at qa
    have qa' : b1 (bt (T.2 l 1 a) t) = nv r V (nw + na) nt t ν a := qa
    rw [← qa']
    cases bt (T.2 l 1 a) t <;> rfl
  · have pa := hp a ha (pt_1 (by omega) n4 e1)
    have pb := hp b hb (pt_2 (by omega) n4 e2)
    rw [w1] at pa
    rw [w2] at pb
    rw [k, if_neg (by decide), if_neg (by decide), if_pos rfl, uA (ci := 5) h7 (by decide), uA (ci := 5) h7 (by decide), e1, ulL (ci := 5) h7 (by decide) (by rw [a1]; omega) (by omega), uA (ci := 5) h7 (by decide), e2, ulL (ci := 5) h7 (by decide) (by rw [a1]; omega) (by omega), uwL (ci := 5) h7 (by decide) (by rw [a1]; omega) (by omega)]
    refine ⟨_, rfl, plO.up, fun t ht => ?_⟩
    have qa := pa t ht
    have qb := pb t ht
    rw [if_neg (by decide)] at qa qb
    rw [wf (by rw [k]; decide), if_neg (by decide)]
    show b1 (bt (up3 T.2 l 1 m _ l 1 m) t) = nv r V (nw + na) nt t ν m
    have qa' : b1 (bt (T.2 l 1 a) t) = nv r V (nw + na) nt t ν a := qa
    have qb' : b1 (bt (T.2 l 1 b) t) = nv r V (nw + na) nt t ν b := qb
    rw [x1, bt_and, nv_8 h.hE h.hX hm k e1 e2 (by omega) (by omega), ← qa', ← qb']
    cases bt (T.2 l 1 a) t <;> cases bt (T.2 l 1 b) t <;> rfl
  · have pa := hp a ha (pt_1 (by omega) n4 e1)
    have pb := hp b hb (pt_2 (by omega) n4 e2)
    have pd := hp d hd (pt_3 (by omega) k e3)
    have wm : wd (V.1 r 3) (V.1 r 5) m = wd (V.1 r 3) (V.1 r 5) b := wd_9 h.hX.2.2.1.2.1 (by omega) hm k e2 hb
    rw [w1] at pa
    rw [← w2] at pd
    obtain ⟨T', t1, t2, t3⟩ := cls_choose (O := O) (n := n) (S := T) (wf := wd (V.1 r 3) (V.1 r 5) b) hP' (show m < 5732 by omega) (show b < 5732 by omega) (show d < 5732 by omega) (by omega) (by omega) (st := T.2 l 1 a) (vc := fun t => nv r V (nw + na) nt t ν a) (by rw [tw, h.wds m hm, wm]) (fun t ht => by
      have qa := pa t ht
      rw [if_neg (by decide)] at qa
      exact qa) pb pd
    rw [k, if_neg (by decide), if_neg (by decide), if_neg (by decide), if_pos rfl, uA (ci := 5) h7 (by decide), e1, ulL (ci := 5) h7 (by decide) (by rw [a1]; omega) (by omega), uO (ci := 5) h7 (by decide), o11, uA (ci := 3) n2.1 (by decide), ul (ci := 3) n2.1 (by decide) m3 (by omega), tw, h.rw3, e2, e3, uk (ci := 5) h7, t1, yV_some]
    refine ⟨T', rfl, t2, ?_⟩
    rw [wm]
    refine PRm_congr t3 (fun t ht => ?_)
    show (if nv r V (nw + na) nt t ν a = 1 then nv r V (nw + na) nt t ν b else nv r V (nw + na) nt t ν d) = nv r V (nw + na) nt t ν m
    rw [nv_9 h.hE h.hX hm k e1 e2 e3 (by omega) (by omega) (by omega)]
end RECKON
