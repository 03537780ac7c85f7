section STATE
variable {O : qOb9} {r n E N : Nat} {S : qS}
theorem ref_beginState_2 (h : Ref O r) (h9 : S.1 r 9 0 = nI E) (hE : E ≤ 16) : ∀ (d e f : Nat) (G : Nat → Int32), e + d = E → d < f →
    G_XModel_beginState_2 O n f r (nI e) (setF S r 18 G) = some ((), setF S r 18 (fun i => if e ≤ i ∧ i < E then S.1 r 11 i else G i)) := by
  intro d
  induction d with
  | zero =>
    intro e f G ee hf
    obtain ⟨f, rfl⟩ : ∃ q, f = q + 1 := ⟨f - 1, by omega⟩
    rw [G_XModel_beginState_2, rI h (by decide), setF_ne (by decide), h9, if_pos (nI_le (by omega) (by omega))]
    have e2 : (fun i => if e ≤ i ∧ i < E then S.1 r 11 i else G i) = G := by
      funext k
      rw [if_neg (by omega)]
    rw [e2]
  | succ d ih =>
    intro e f G ee hf
    obtain ⟨f, rfl⟩ : ∃ q, f = q + 1 := ⟨f - 1, by omega⟩
    have e18 : e < refN 18 := by show e < 16; omega
    have e11 : e < refN 11 := by show e < 16; omega
    rw [G_XModel_beginState_2, rI h (by decide), setF_ne (by decide), h9, if_neg (nI_ge (by omega) (by omega)), rA h (by decide), rA h (by decide), rl h (by decide) (by decide) e11, setF_ne (by decide), rw' h (by decide) (by decide) e18, setF_up, setF_setF, setF_same, hB_eq, nI_1, ih (e + 1) f _ (by omega) (by omega)]
    have e2 : (fun i => if e + 1 ≤ i ∧ i < E then S.1 r 11 i else if i = e then S.1 r 11 e else G i) = (fun i => if e ≤ i ∧ i < E then S.1 r 11 i else G i) := by
      funext k
      by_cases q : k = e
      · rw [if_neg (by omega), if_pos q, if_pos (by omega), q]
      · rw [if_neg q]
        by_cases q2 : e + 1 ≤ k ∧ k < E
        · rw [if_pos q2, if_pos (by omega)]
        · rw [if_neg q2, if_neg (by omega)]
    rw [e2]
theorem ref_beginState (h : Ref O r) (hn : 7000 ≤ n) (h9 : S.1 r 9 0 = nI E) (hE : E ≤ 16) : G_XModel_beginState O n r S = some ((), setF S r 18 (fun i => if i < E then S.1 r 11 i else S.1 r 18 i)) := by
  unfold G_XModel_beginState
  have q := ref_beginState_2 (O := O) (n := n) (S := S) h h9 hE E 0 n (S.1 r 18) (by omega) (by omega)
  rw [setF_self, nI_0] at q
  rw [q]
  have e2 : (fun i => if 0 ≤ i ∧ i < E then S.1 r 11 i else S.1 r 18 i) = (fun i => if i < E then S.1 r 11 i else S.1 r 18 i) := by
    funext k
    by_cases q : k < E
    · rw [if_pos q, if_pos ⟨Nat.zero_le k, q⟩]
    · rw [if_neg q, if_neg (fun z => q z.2)]
  rw [e2]
/-- state e becomes what next e was made, for all elements -/
theorem ref_step_7 (h : Ref O r) (h9 : S.1 r 9 0 = nI E) (hE : E ≤ 16) (hx : ∀ e, e < E → ∃ m, m < 300 ∧ S.1 r 12 e = nI m) : ∀ (d e f : Nat) (G : Nat → Int32), e + d = E → d < f →
    G_XModel_step_7 O n f r (nI e) (setF S r 18 G) = some ((), setF S r 18 (fun i => if e ≤ i ∧ i < E then S.1 r 17 (S.1 r 12 i).toNatClampNeg else G i)) := by
  intro d
  induction d with
  | zero =>
    intro e f G ee hf
    obtain ⟨f, rfl⟩ : ∃ q, f = q + 1 := ⟨f - 1, by omega⟩
    rw [G_XModel_step_7, rI h (by decide), setF_ne (by decide), h9, if_pos (nI_le (by omega) (by omega))]
    have e2 : (fun i => if e ≤ i ∧ i < E then S.1 r 17 (S.1 r 12 i).toNatClampNeg else G i) = G := by
      funext k
      rw [if_neg (by omega)]
    rw [e2]
  | succ d ih =>
    intro e f G ee hf
    obtain ⟨f, rfl⟩ : ∃ q, f = q + 1 := ⟨f - 1, by omega⟩
    have e18 : e < refN 18 := by show e < 16; omega
    have e12 : e < refN 12 := by show e < 16; omega
    obtain ⟨m, hm, em⟩ := hx e (by omega)
    have m17 : m < refN 17 := hm
    rw [G_XModel_step_7, rI h (by decide), setF_ne (by decide), h9, if_neg (nI_ge (by omega) (by omega)), rA h (by decide), rA h (by decide), rA h (by decide), rl h (by decide) (by decide) e12, setF_ne (by decide), em, rl h (by decide) (by decide) m17, setF_ne (by decide), rw' h (by decide) (by decide) e18, setF_up, setF_setF, setF_same, hB_eq, nI_1, ih (e + 1) f _ (by omega) (by omega)]
    have e2 : (fun i => if e + 1 ≤ i ∧ i < E then S.1 r 17 (S.1 r 12 i).toNatClampNeg else if i = e then S.1 r 17 m else G i) = (fun i => if e ≤ i ∧ i < E then S.1 r 17 (S.1 r 12 i).toNatClampNeg else G i) := by
      funext k
      by_cases q : k = e
      · rw [if_neg (by omega), if_pos q, if_pos (by omega), q, em, nI_clamp (by omega)]
      · rw [if_neg q]
        by_cases q2 : e + 1 ≤ k ∧ k < E
        · rw [if_pos q2, if_pos (by omega)]
        · rw [if_neg q2, if_neg (by omega)]
    rw [e2]
end STATE
