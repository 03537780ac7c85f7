/-! THE CLASS'S SEARCH, LAID OUT LIKE THE REFERENCE'S -/
/-- rows alone -/
def vR (S : qS) (w : Nat) (j i : Nat) : Int32 := if j = 3 then S.1 w 0 i else if j = 4 then S.1 w 1 i else if j = 5 then S.1 w 2 i else S.1 w 3 i
/-- the class's data where the reference has its own (node 0 is marked, too) -/
def vS (S : qS) (p w q s M nw na nt I Kc : Nat) : qS := (fun _ j i =>
  if j = 2 then nI M else if j = 3 then S.1 w 0 i else if j = 4 then S.1 w 1 i else if j = 5 then S.1 w 2 i else if j = 6 then S.1 w 3 i
  else if j = 7 then rTop (vR S w) i M else if j = 8 then rTop (vR S w) (rowH (vR S w) i) i else if j = 9 then nI 16 else if j = 10 then nI I
  else if j = 15 then (if i < Kc then 1 else 0) else if j = 16 then S.1 q 0 i else if j = 19 then S.1 q 1 i else if j = 20 then nI 0
  else if j = 21 then (if i = 0 then 1 else S.1 p 3 i) else if j = 23 then nI nw else if j = 24 then nI na else if j = 25 then nI nt
  else if j = 26 then S.1 s 4 i else if j = 28 then S.1 s 3 i else 0, S.2)
section VIRTUAL
variable {O : qOb9} {x c u p f w q s l n E M nw na nt I Kc : Nat} {S T : qS}
theorem v3 : (vS S p w q s M nw na nt I Kc).1 0 3 = S.1 w 0 := rfl
theorem v4 : (vS S p w q s M nw na nt I Kc).1 0 4 = S.1 w 1 := rfl
theorem v5 : (vS S p w q s M nw na nt I Kc).1 0 5 = S.1 w 2 := rfl
theorem v6 : (vS S p w q s M nw na nt I Kc).1 0 6 = S.1 w 3 := rfl
theorem v15 (i : Nat) : (vS S p w q s M nw na nt I Kc).1 0 15 i = if i < Kc then 1 else 0 := rfl
theorem v16 : (vS S p w q s M nw na nt I Kc).1 0 16 = S.1 q 0 := rfl
theorem v19 : (vS S p w q s M nw na nt I Kc).1 0 19 = S.1 q 1 := rfl
theorem v20 (i : Nat) : (vS S p w q s M nw na nt I Kc).1 0 20 i = nI 0 := rfl
theorem v21 (i : Nat) : (vS S p w q s M nw na nt I Kc).1 0 21 i = if i = 0 then 1 else S.1 p 3 i := rfl
theorem v26 : (vS S p w q s M nw na nt I Kc).1 0 26 = S.1 s 4 := rfl
theorem v28 : (vS S p w q s M nw na nt I Kc).1 0 28 = S.1 s 3 := rfl
theorem vCd (m : Nat) : rCd (vS S p w q s M nw na nt I Kc) 0 m = cCd S w m := rfl
theorem rowOk_more {κ α β γ : Nat → Int32} {E' m : Nat} (h : rowOk κ α β γ E m) (hE : E ≤ E') : rowOk κ α β γ E' m := by
  rcases h with z | ⟨z, ⟨a, ⟨e, he, ea⟩, b⟩ | y⟩
  · exact Or.inl z
  · exact Or.inr ⟨z, Or.inl ⟨a, ⟨e, by omega, ea⟩, b⟩⟩
  · exact Or.inr ⟨z, Or.inr y⟩
/-- marked in the reference's place -/
theorem vMk {m : Nat} : dpN (vS S p w q s M nw na nt I Kc) 0 m ↔ m = 0 ∨ ¬ S.1 p 3 m = 0 := by
  unfold dpN
  rw [v21]
  by_cases z : m = 0
  · rw [if_pos z]
    exact ⟨fun _ => Or.inl z, fun _ => by decide⟩
  · rw [if_neg z]
    exact ⟨fun y => Or.inr y, fun y => y.elim (fun a => absurd a z) id⟩
theorem vExt (hE : E ≤ 16) (hC : CS O w 5732 2048 S E M) : Ext 0 (vS S p w q s M nw na nt I Kc) 16 M := by
  have hM := hC.2.2.1
  obtain ⟨a1, a2, a3⟩ := hC.2.2.2.1
  refine ⟨rfl, by omega, ⟨a1, fun m hm => rowOk_more (a2 m hm) hE, a3⟩, fun hh _ => ?_, fun i hi => ?_⟩
  · show rTop (vR S w) hh M = rTop ((vS S p w q s M nw na nt I Kc).1 0) hh M
    exact rTop_congr (fun i _ => rfl)
  · show rTop (vR S w) (rowH (vR S w) i) i = rTop ((vS S p w q s M nw na nt I Kc).1 0) (rowH ((vS S p w q s M nw na nt I Kc).1 0) i) i
    exact rTop_congr (fun i _ => rfl)
theorem vClo (hX : PX O x c u p f w q s l E M S) : MClo 0 M (vS S p w q s M nw na nt I Kc) := by
  obtain ⟨hO, hE, hC, ⟨hM3, hlo, hhi⟩, h01, hcl, bW, bT⟩ := hX
  intro a b ha hb da hp
  rw [vMk] at da ⊢
  rcases da with z | z
  · subst z
    exfalso
    have := hlo 0 (by omega)
    exact hp.1 this
  · exact Or.inr (hcl a b ha hb z hp)
/-- the lists are the reference's -/
theorem vRL (hX : PX O x c u p f w q s l E M S) (h4 : Lists (S.1 s 4) (gW (S.1 w 0) (S.1 p 3)) 0 M) (h3 : Lists (S.1 s 3) (gP 4 (S.1 w 0) (S.1 p 3)) 0 M) (h2 : ¬ S.1 p 3 2 = 0 → S.1 s 3 (cnt (gP 4 (S.1 w 0) (S.1 p 3)) M) = nI 2) (hnw : nw = cnt (gP 3 (S.1 w 0) (S.1 p 3)) M) (hna : na = cnt (gP 5 (S.1 w 0) (S.1 p 3)) M) (hnt : nt = cnt (gP 4 (S.1 w 0) (S.1 p 3)) M + (if S.1 p 3 2 = 0 then 0 else 1)) :
    RL 0 M nw na nt (vS S p w q s M nw na nt I Kc) ∧ nw + na = cnt (gW (S.1 w 0) (S.1 p 3)) M ∧ ∀ k m, k < nw + na → m < M → S.1 s 4 k = nI m → ¬ S.1 p 3 m = 0 ∧ (S.1 w 0 m = 3 ∨ S.1 w 0 m = 5) ∧ k = cnt (gW (S.1 w 0) (S.1 p 3)) m := by
  obtain ⟨hO, hE, hC, ⟨hM3, hlo, hhi⟩, h01, hcl, bW, bT⟩ := hX
  have hM := hC.2.2.1
  have hM31 := (CS_big hC).1
  have sW := gW_cnt (S.1 w 0) (S.1 p 3) M
  have sT := gT_cnt (S.1 w 0) (S.1 p 3) M
  have c2 : cnt (gP 2 (S.1 w 0) (S.1 p 3)) M = if S.1 p 3 2 = 0 then 0 else 1 := by
    have : cnt (gP 2 (S.1 w 0) (S.1 p 3)) M = cnt (fun m => gP 2 (S.1 w 0) (S.1 p 3) m && decide (m = 2)) M := cnt_congr (fun m hm => by
      cases q : gP 2 (S.1 w 0) (S.1 p 3) m with
      | false => rfl
      | true => rw [decide_eq_true ((k2_2 hC.2.2.2.1 hm).mp (gP_iff.mp q).2)]; rfl)
    rw [this, cnt_one (x := 2) (fun m q => by
      rw [Bool.and_eq_true, decide_eq_true_iff] at q
      exact q.2) (by omega), decide_eq_true rfl, Bool.and_true]
    by_cases d2 : S.1 p 3 2 = 0
    · rw [if_pos d2, if_neg]
      intro q
      exact (gP_iff.mp q).1 d2
    · rw [if_neg d2, if_pos (gP_iff.mpr ⟨d2, (k2_2 hC.2.2.2.1 (by omega)).mpr rfl⟩)]
  have el : ∀ m, m < M → S.1 w 0 m = 3 → m < 3 + E := fun m hm k => Nat.lt_of_not_le fun z => hhi m z hm (by rw [k]; decide)
  have ap : ∀ m, S.1 w 0 m = 5 → 3 + E ≤ m := fun m k => Nat.le_of_not_lt fun z => by have := hlo m z; rw [k] at this; exact absurd this (by decide)
  have W3 : ∀ m, m < M → S.1 w 0 m = 3 → cnt (gW (S.1 w 0) (S.1 p 3)) m = cnt (gP 3 (S.1 w 0) (S.1 p 3)) m := fun m hm k => by
    rw [gW_cnt, cnt_none (P := gP 5 (S.1 w 0) (S.1 p 3)) (fun m' hm' => gP_not (fun k5 => by have := ap m' k5; have := el m hm k; omega)), Nat.add_zero]
  have W5 : ∀ m, m < M → S.1 w 0 m = 5 → cnt (gW (S.1 w 0) (S.1 p 3)) m = nw + cnt (gP 5 (S.1 w 0) (S.1 p 3)) m := fun m hm k => by
    rw [gW_cnt, hnw]
    have : ∀ d, m + d ≤ M → cnt (gP 3 (S.1 w 0) (S.1 p 3)) (m + d) = cnt (gP 3 (S.1 w 0) (S.1 p 3)) m := by
      intro d
      induction d with
      | zero => intro _; rfl
      | succ d ih =>
        intro hd
        rw [← Nat.add_assoc, cnt_s, ih (by omega), gP_not (fun k3 => by have := el (m + d) (by omega) k3; have := ap m k; omega)]
        rfl
    have e := this (M - m) (by omega)
    rw [show m + (M - m) = M by omega] at e
    rw [e]
  have hit : ∀ k, k < cnt (gW (S.1 w 0) (S.1 p 3)) M → ∃ m, m < M ∧ gW (S.1 w 0) (S.1 p 3) m = true ∧ cnt (gW (S.1 w 0) (S.1 p 3)) m = k ∧ S.1 s 4 k = nI m := fun k hk => by
    obtain ⟨m, hm, hp', ec⟩ := cnt_hit hk
    have := h4 m hm hp'
    rw [Nat.zero_add, ec] at this
    exact ⟨m, hm, hp', ec, this⟩
  have at4 : ∀ k m, k < nw + na → m < M → S.1 s 4 k = nI m → ¬ S.1 p 3 m = 0 ∧ (S.1 w 0 m = 3 ∨ S.1 w 0 m = 5) ∧ k = cnt (gW (S.1 w 0) (S.1 p 3)) m := fun k m hk hm em => by
    obtain ⟨m', hm', hp', ec, em'⟩ := hit k (by omega)
    have := (nI_eq (by omega) (by omega)).mp (em.symm.trans em')
    subst this
    exact ⟨(gW_iff.mp hp').1, (gW_iff.mp hp').2, ec.symm⟩
  have lt3 : ∀ m, m < M → ¬ S.1 p 3 m = 0 → S.1 w 0 m = 3 → cnt (gP 3 (S.1 w 0) (S.1 p 3)) m < nw := fun m hm hd k => by rw [hnw]; exact cnt_lt hm (gP_iff.mpr ⟨hd, k⟩)
  have d0 : ∀ m, dpN (vS S p w q s M nw na nt I Kc) 0 m → ¬ m = 0 → ¬ S.1 p 3 m = 0 := fun m hd hm => (vMk.mp hd).elim (fun z => absurd z hm) id
  have m0 : ∀ {m : Nat} {k : Int32}, S.1 w 0 m = k → ¬ k = nI 0 → ¬ m = 0 := fun {m k} hk hk0 hm => by
    rcases hC.2.2.2.1.2.1 0 (by omega) with ⟨_, z, _⟩ | ⟨z, _⟩
    · rw [hm, z] at hk; exact hk0 hk.symm
    · omega
  refine ⟨⟨rfl, rfl, rfl, by omega, by omega, fun k hk => ?_, fun m hm hd => ?_, fun k k' m m' hk hk' em em' hm hm' => ?_, fun k hk => ?_, fun m hm hd hkind => ?_, fun k k' m m' hk hk' em em' hm hm' => ?_, fun k k' m hk hk' hm em em' => ?_⟩, by omega, at4⟩
  · obtain ⟨m, hm, hp', ec, em⟩ := hit k (by omega)
    obtain ⟨g1, g2⟩ := gW_iff.mp hp'
    refine ⟨m, hm, em, vMk.mpr (Or.inr g1), fun hk2 => ?_, fun hk2 => ?_⟩
    · rcases g2 with z | z
      · exact z
      · have := W5 m hm z
        omega
    · rcases g2 with z | z
      · have := W3 m hm z
        have := lt3 m hm g1 z
        omega
      · exact z
  · refine ⟨fun k3 => ?_, fun k5 => ?_⟩
    · have hd' := d0 m hd (m0 (show S.1 w 0 m = 3 from k3) (by decide))
      have hp' : gW (S.1 w 0) (S.1 p 3) m = true := gW_iff.mpr ⟨hd', Or.inl k3⟩
      have := h4 m hm hp'
      rw [Nat.zero_add] at this
      exact ⟨_, by rw [W3 m hm k3]; exact lt3 m hm hd' k3, this⟩
    · have hd' := d0 m hd (m0 (show S.1 w 0 m = 5 from k5) (by decide))
      have hp' : gW (S.1 w 0) (S.1 p 3) m = true := gW_iff.mpr ⟨hd', Or.inr k5⟩
      have := h4 m hm hp'
      rw [Nat.zero_add] at this
      have lt := cnt_lt hm hp'
      exact ⟨_, by rw [W5 m hm k5]; omega, by omega, this⟩
  · obtain ⟨_, _, e1⟩ := at4 k m (by omega) hm em
    obtain ⟨_, _, e2⟩ := at4 k' m' (by omega) hm' em'
    apply Nat.lt_of_not_le
    intro hle
    have := cnt_mono (P := gW (S.1 w 0) (S.1 p 3)) hle
    omega
  · by_cases z : k < cnt (gP 4 (S.1 w 0) (S.1 p 3)) M
    · obtain ⟨m, hm, hp', ec⟩ := cnt_hit z
      have := h3 m hm hp'
      rw [Nat.zero_add, ec] at this
      exact ⟨m, hm, this, vMk.mpr (Or.inr (gP_iff.mp hp').1), Or.inl (gP_iff.mp hp').2⟩
    · by_cases d2 : S.1 p 3 2 = 0
      · rw [if_pos d2] at hnt; omega
      · rw [if_neg d2] at hnt
        have ek : k = cnt (gP 4 (S.1 w 0) (S.1 p 3)) M := by omega
        exact ⟨2, by omega, by rw [v28, ek]; exact h2 d2, vMk.mpr (Or.inr d2), Or.inr ⟨rfl, by omega⟩⟩
  · have hd' := d0 m hd (by
      rcases hkind with z | z
      · exact m0 (show S.1 w 0 m = 4 from z) (by decide)
      · exact m0 (show S.1 w 0 m = 2 from z) (by decide))
    rcases hkind with k4 | k2
    · have hp' : gP 4 (S.1 w 0) (S.1 p 3) m = true := gP_iff.mpr ⟨hd', k4⟩
      have lt := cnt_lt hm hp'
      have := h3 m hm hp'
      rw [Nat.zero_add] at this
      exact ⟨_, by omega, this⟩
    · have e2 := (k2_2 hC.2.2.2.1 hm).mp k2
      subst e2
      rw [if_neg hd'] at hnt
      exact ⟨cnt (gP 4 (S.1 w 0) (S.1 p 3)) M, by omega, h2 hd'⟩
  · rw [v28] at em em'
    have hk4 : k < cnt (gP 4 (S.1 w 0) (S.1 p 3)) M := by
      by_cases d2 : S.1 p 3 2 = 0
      · rw [if_pos d2] at hnt; omega
      · rw [if_neg d2] at hnt; omega
    obtain ⟨a, ha, hpa, eca⟩ := cnt_hit hk4
    have q1 := h3 a ha hpa
    rw [Nat.zero_add, eca, em] at q1
    have w1 := (nI_eq (by omega) (by omega)).mp q1
    refine ⟨by rw [v3, w1]; exact (gP_iff.mp hpa).2, fun km' => ?_⟩
    by_cases z : k' < cnt (gP 4 (S.1 w 0) (S.1 p 3)) M
    · obtain ⟨a', ha', hpa', eca'⟩ := cnt_hit z
      have q2 := h3 a' ha' hpa'
      rw [Nat.zero_add, eca', em'] at q2
      have w2 := (nI_eq (by omega) (by omega)).mp q2
      rw [w1, w2]
      apply Nat.lt_of_not_le
      intro hle
      have := cnt_mono (P := gP 4 (S.1 w 0) (S.1 p 3)) hle
      omega
    · by_cases d2 : S.1 p 3 2 = 0
      · rw [if_pos d2] at hnt; omega
      · rw [if_neg d2] at hnt
        have ek : k' = cnt (gP 4 (S.1 w 0) (S.1 p 3)) M := by omega
        have q2 := h2 d2
        rw [← ek, em'] at q2
        have w2 := (nI_eq (a := m') (b := 2) (by omega) (by decide)).mp q2
        rw [w2, v3, (k2_2 hC.2.2.2.1 (by omega)).mpr rfl] at km'
        exact absurd km' (by decide)
  · obtain ⟨_, _, e1⟩ := at4 k m hk hm em
    obtain ⟨_, _, e2⟩ := at4 k' m hk' hm em'
    omega
end VIRTUAL
