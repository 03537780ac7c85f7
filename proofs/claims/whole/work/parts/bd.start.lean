/-! MEMORY AS IT IS MADE -/
/-- cell a is as it was -/
def Kp (M M' : PM) (a : Nat) : Prop := mK M' a = mK M a ∧ mN M' a = mN M a ∧ mI M' a = mI M a ∧ mL M' a = mL M a ∧ mF M' a = mF M a
theorem Kp.refl {M : PM} {a : Nat} : Kp M M a := ⟨rfl, rfl, rfl, rfl, rfl⟩
theorem Kp.trans {M M1 M2 : PM} {a : Nat} (h1 : Kp M M1 a) (h2 : Kp M1 M2 a) : Kp M M2 a := ⟨h2.1.trans h1.1, h2.2.1.trans h1.2.1, h2.2.2.1.trans h1.2.2.1, h2.2.2.2.1.trans h1.2.2.2.1, h2.2.2.2.2.trans h1.2.2.2.2⟩
/-- a new array -/
def Ar (M : PM) (a kd len : Nat) : Prop := mK M a = kd ∧ mN M a = len ∧ (∀ i, mI M a i = 0) ∧ ∀ i, mL M a i = 0
theorem Ar_Kp {M M' : PM} {a kd len : Nat} (h : Ar M a kd len) (hk : Kp M M' a) : Ar M' a kd len := by
  unfold Ar
  rw [hk.1, hk.2.1, hk.2.2.1, hk.2.2.2.1]; exact h
/-- what is there: objects with their fields, arrays -/
abbrev oL : Type := List (Nat × Nat × (Nat → Value))
abbrev aL' : Type := List (Nat × Nat × Nat)
def Lo (M : PM) (os : oL) (as : aL') : Prop := (∀ t ∈ os, t.1 < mS M ∧ mK M t.1 = t.2.1 + 3 ∧ mF M t.1 = t.2.2) ∧ ∀ t ∈ as, t.1 < mS M ∧ Ar M t.1 t.2.1 t.2.2
theorem Lo_sub {M : PM} {os os' : oL} {as as' : aL'} (h : Lo M os as) (h1 : ∀ t ∈ os', t ∈ os) (h2 : ∀ t ∈ as', t ∈ as) : Lo M os' as' := ⟨fun t ht => h.1 t (h1 t ht), fun t ht => h.2 t (h2 t ht)⟩
theorem Lo_Kp {M M' : PM} {os : oL} {as : aL'} (h : Lo M os as) (hs : mS M ≤ mS M') (h1 : ∀ t ∈ os, Kp M M' t.1) (h2 : ∀ t ∈ as, Kp M M' t.1) : Lo M' os as := by
  refine ⟨fun t ht => ?_, fun t ht => ?_⟩
  · obtain ⟨a, b, d⟩ := h.1 t ht
    have k := h1 t ht
    exact ⟨by omega, by rw [k.1]; exact b, by rw [k.2.2.2.2]; exact d⟩
  · obtain ⟨a, b⟩ := h.2 t ht
    exact ⟨by omega, Ar_Kp b (h2 t ht)⟩
def upF (F : Nat → Value) (j : Nat) (v : Value) : Nat → Value := fun j' => if j' = j then v else F j'
/-- how much was made -/
def Cn (M M' : PM) (s c t : Nat) : Prop := mS M' = mS M + s ∧ mC M' = mC M + c ∧ mT M' = mT M + t
theorem nO_ok {M : PM} {ci : Nat} : Cn M (nO M ci) 1 1 (qNf ci) ∧ (∀ a, a < mS M → Kp M (nO M ci) a) ∧ mK (nO M ci) (mS M) = ci + 3 ∧ mF (nO M ci) (mS M) = qDf ci := by
  refine ⟨⟨rfl, rfl, rfl⟩, fun a ha => ⟨?_, rfl, rfl, rfl, ?_⟩, ?_, ?_⟩
  · show va_up (mK M) (mS M) (ci + 3) a = mK M a
    unfold va_up; rw [if_neg (by omega)]
  · show va_up (mF M) (mS M) (qDf ci) a = mF M a
    unfold va_up; rw [if_neg (by omega)]
  · show va_up (mK M) (mS M) (ci + 3) (mS M) = ci + 3
    unfold va_up; rw [if_pos rfl]
  · show va_up (mF M) (mS M) (qDf ci) (mS M) = qDf ci
    unfold va_up; rw [if_pos rfl]
theorem nA_ok {M : PM} {kd n : Nat} : Cn M (nA M kd n) 1 1 n ∧ (∀ a, a < mS M → Kp M (nA M kd n) a) ∧ Ar (nA M kd n) (mS M) kd n := by
  refine ⟨⟨rfl, rfl, rfl⟩, fun a ha => ⟨?_, ?_, ?_, ?_, rfl⟩, ?_, ?_, fun i => ?_, fun i => ?_⟩
  · show va_up (mK M) (mS M) kd a = mK M a
    unfold va_up; rw [if_neg (by omega)]
  · show va_up (mN M) (mS M) n a = mN M a
    unfold va_up; rw [if_neg (by omega)]
  · show va_up (mI M) (mS M) (fun _ => 0) a = mI M a
    unfold va_up; rw [if_neg (by omega)]
  · show va_up (mL M) (mS M) (fun _ => 0) a = mL M a
    unfold va_up; rw [if_neg (by omega)]
  · show va_up (mK M) (mS M) kd (mS M) = kd
    unfold va_up; rw [if_pos rfl]
  · show va_up (mN M) (mS M) n (mS M) = n
    unfold va_up; rw [if_pos rfl]
  · show va_up (mI M) (mS M) (fun _ => 0) (mS M) i = 0
    unfold va_up; rw [if_pos rfl]
  · show va_up (mL M) (mS M) (fun _ => 0) (mS M) i = 0
    unfold va_up; rw [if_pos rfl]
theorem sF_ok {M : PM} {o j : Nat} {v : Value} : Cn M (sF M o j v) 0 0 0 ∧ (∀ a, a ≠ o → Kp M (sF M o j v) a) ∧ mK (sF M o j v) o = mK M o ∧ mF (sF M o j v) o = upF (mF M o) j v := by
  refine ⟨⟨rfl, rfl, rfl⟩, fun a ha => ⟨rfl, rfl, rfl, rfl, ?_⟩, rfl, ?_⟩
  · show up2 (mF M) o j v a = mF M a
    exact up2_nf ha
  · show up2 (mF M) o j v o = upF (mF M o) j v
    funext j'
    exact up2_sm _ _ _ _ _
theorem Lo_nO {M : PM} {os : oL} {as : aL'} {ci : Nat} (h : Lo M os as) : Lo (nO M ci) ((mS M, ci, qDf ci) :: os) as := by
  obtain ⟨⟨c1, _⟩, k, e1, e2⟩ := nO_ok (M := M) (ci := ci)
  have h' := Lo_Kp h (by omega) (fun t ht => k t.1 (h.1 t ht).1) (fun t ht => k t.1 (h.2 t ht).1)
  refine ⟨fun t ht => ?_, h'.2⟩
  rcases List.mem_cons.mp ht with rfl | ht
  · exact ⟨by rw [c1]; exact Nat.lt_succ_self _, e1, e2⟩
  · exact h'.1 t ht
theorem Lo_sF {M : PM} {os : oL} {as : aL'} {o ci j : Nat} {F : Nat → Value} {v : Value} (h : Lo M ((o, ci, F) :: os) as) (hne : ∀ t ∈ os, t.1 ≠ o) : Lo (sF M o j v) ((o, ci, upF F j v) :: os) as := by
  obtain ⟨⟨c1, _⟩, k, e1, e2⟩ := sF_ok (M := M) (o := o) (j := j) (v := v)
  obtain ⟨a1, a2, a3⟩ := h.1 _ List.mem_cons_self
  refine ⟨fun t ht => ?_, fun t ht => ?_⟩
  · rcases List.mem_cons.mp ht with rfl | ht
    · refine ⟨by rw [c1]; exact a1, by rw [e1]; exact a2, ?_⟩
      rw [e2, show mF M o = F from a3]
    · obtain ⟨b1, b2, b3⟩ := h.1 t (List.mem_cons_of_mem _ ht)
      have kk := k t.1 (hne t ht)
      exact ⟨by rw [c1]; exact b1, by rw [kk.1]; exact b2, by rw [kk.2.2.2.2]; exact b3⟩
  · obtain ⟨b1, b2, b3, b4, b5⟩ := h.2 t ht
    exact ⟨by rw [c1]; exact b1, b2, b3, b4, b5⟩
/-- arrays made one after another, each put into a field -/
def mkA (ci l0 : Nat) : aL' → (PM → qO) → PM → qO
  | [], k, M => k M
  | t :: ts, k, M => mA t.1 M (nI t.2.1) (fun q M2 => pF ci M2 l0 t.2.2 (.ref q) (fun M3 => mkA ci l0 ts k M3))
def fA (b : Nat) : aL' → (Nat → Value) → Nat → Value
  | [], F => F
  | t :: ts, F => fA (b + 1) ts (upF F t.2.2 (.ref b))
def arr (b : Nat) : aL' → aL'
  | [] => []
  | t :: ts => (b, t.1, t.2.1) :: arr (b + 1) ts
def sumL : aL' → Nat
  | [] => 0
  | t :: ts => t.2.1 + sumL ts
theorem mkA_ok {ci l0 : Nat} : ∀ (ts : aL') (M : PM) (os : oL) (as : aL') (F : Nat → Value), (∀ t ∈ ts, t.2.1 ≤ 67108864) → (∀ t ∈ os, t.1 ≠ l0) → Lo M ((l0, ci, F) :: os) as →
    ∃ M', (∀ k, mkA ci l0 ts k M = k M') ∧ Cn M M' ts.length ts.length (sumL ts) ∧ (∀ a, a < mS M → a ≠ l0 → Kp M M' a) ∧ Lo M' ((l0, ci, fA (mS M) ts F) :: os) (arr (mS M) ts ++ as) := by
  intro ts
  induction ts with
  | nil => intro M os as F _ _ h; exact ⟨M, fun _ => rfl, ⟨rfl, rfl, rfl⟩, fun _ _ _ => Kp.refl, h⟩
  | cons t ts ih =>
    intro M os as F hb hne h
    obtain ⟨a1, a2, a3⟩ := h.1 _ List.mem_cons_self
    obtain ⟨⟨c1, c2, c3⟩, k1, ar⟩ := nA_ok (M := M) (kd := t.1) (n := t.2.1)
    have h1 := Lo_Kp h (by omega) (fun t' ht => k1 t'.1 (h.1 t' ht).1) (fun t' ht => k1 t'.1 (h.2 t' ht).1)
    have h1' : Lo (nA M t.1 t.2.1) ((l0, ci, F) :: os) ((mS M, t.1, t.2.1) :: as) := ⟨h1.1, fun t' ht => by
      rcases List.mem_cons.mp ht with rfl | ht
      · exact ⟨by rw [c1]; exact Nat.lt_succ_self _, ar⟩
      · exact h1.2 t' ht⟩
    have h2 := Lo_sF (j := t.2.2) (v := .ref (mS M)) h1' hne
    obtain ⟨⟨d1, d2, d3⟩, k2, _⟩ := sF_ok (M := nA M t.1 t.2.1) (o := l0) (j := t.2.2) (v := .ref (mS M))
    have s2 : mS (sF (nA M t.1 t.2.1) l0 t.2.2 (.ref (mS M))) = mS M + 1 := by rw [d1, c1]
    obtain ⟨M', e', ⟨g1, g2, g3⟩, g4, g5⟩ := ih _ os _ _ (fun t' ht => hb t' (List.mem_cons_of_mem _ ht)) hne h2
    rw [s2] at g1 g4 g5
    refine ⟨M', fun k => ?_, ⟨by rw [g1, List.length_cons]; omega, by rw [g2, d2, c2, List.length_cons]; omega, ?_⟩, fun a ha hne' => ((k1 a ha).trans (k2 a hne')).trans (g4 a (by omega) hne'), Lo_sub g5 (fun _ h => h) (fun t' ht => ?_)⟩
    · have hlen := hb t List.mem_cons_self
      show mA t.1 M (nI t.2.1) (fun q M2 => pF ci M2 l0 t.2.2 (.ref q) (fun M3 => mkA ci l0 ts k M3)) = k M'
      unfold mA
      rw [nI_clamp (by omega), if_pos ⟨nI_pos (by omega), hlen⟩]
      have hk' : mK (nA M t.1 t.2.1) l0 = ci + 3 := by rw [(k1 l0 a1).1]; exact a2
      show pF ci (nA M t.1 t.2.1) l0 t.2.2 (.ref (mS M)) (fun M3 => mkA ci l0 ts k M3) = k M'
      unfold pF
      rw [if_pos hk']
      exact e' k
    · rw [g3, d3, c3]
      show mT M + t.2.1 + 0 + sumL ts = mT M + (t.2.1 + sumL ts)
      omega
    · rcases List.mem_append.mp ht with h' | h'
      · rcases List.mem_cons.mp h' with rfl | h''
        · exact List.mem_append.mpr (Or.inr List.mem_cons_self)
        · exact List.mem_append.mpr (Or.inl h'')
      · exact List.mem_append.mpr (Or.inr (List.mem_cons_of_mem _ h'))
theorem pF_at {M : PM} {os : oL} {as : aL'} {o ci j : Nat} {F : Nat → Value} (h : Lo M os as) (hm : (o, ci, F) ∈ os) {v : Value} {k : PM → qO} : pF ci M o j v k = k (sF M o j v) := by
  unfold pF
  rw [if_pos (h.1 _ hm).2.1]
theorem gR_at {M : PM} {os : oL} {as : aL'} {o ci j a : Nat} {F : Nat → Value} (h : Lo M os as) (hm : (o, ci, F) ∈ os) (hF : F j = .ref a) {k : Nat → qO} : gR ci M o j k = k a := by
  obtain ⟨_, h2, h3⟩ := h.1 _ hm
  unfold gR
  have h3' : mF M o j = .ref a := by rw [show mF M o = F from h3]; exact hF
  rw [if_pos h2, h3']
/-- named objects of cells that are as they were -/
theorem Rp_Kp {O : qOb9} {M M' : PM} {S : qS} (hR : Rp O M S) (h1 : ∀ o ci, oC O o = ci + 1 → Kp M M' o) (h2 : ∀ o ci j, oC O o = ci + 1 → qKd ci j < 3 → Kp M M' (oA O o j)) : Rp O M' S := by
  intro o ci hc
  obtain ⟨r1, r2⟩ := hR o ci hc
  have k1 := h1 o ci hc
  refine ⟨by rw [k1.1]; exact r1, fun j => ⟨fun q => by rw [k1.2.2.2.2]; exact (r2 j).1 q, fun q => by rw [k1.2.2.2.2]; exact (r2 j).2.1 q, fun q => ?_⟩⟩
  obtain ⟨a1, a2, a3, a4, a5⟩ := (r2 j).2.2 q
  have k2 := h2 o ci j hc q
  exact ⟨by rw [k1.2.2.2.2]; exact a1, by rw [k2.1]; exact a2, by rw [k2.2.1]; exact a3, by rw [k2.2.2.1]; exact a4, by rw [k2.2.2.2.1]; exact a5⟩
