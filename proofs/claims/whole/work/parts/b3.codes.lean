/-! THE TWO FACES HAVE ONE MEANING -/
section NOF
variable {κ α β γ : Nat → Int32} {E N : Nat} {st : Nat → Nat} {fc fc' : Nat}
/-- without FETCH, what FETCH becomes does not matter -/
theorem sb_nof (hS : ∀ n, n < N → rowOk κ α β γ E n) (hN : N < 2 ^ 31) (hE : E ≤ 16) : ∀ m, m < N → hf κ α β γ m = false → sb κ α β γ st fc m = sb κ α β γ st fc' m := by
  intro m
  induction m using Nat.strongRecOn with
  | ind m ih =>
    intro hm hf0
    have hp : ∀ q, q < m → isPt κ α β γ m q → sb κ α β γ st fc q = sb κ α β γ st fc' q := fun q hq hpt => by
      refine ih q hq (by omega) ?_
      cases z : hf κ α β γ q with
      | false => rfl
      | true =>
        have : hf κ α β γ m = true := (hf_iff hS hN hm).mpr (Or.inr ⟨q, hq, hpt, z⟩)
        rw [hf0] at this
        cases this
    rcases cd_row hS hN hE hm with ⟨h0, k, -, -⟩ | ⟨h0, a, ha, k, ea, -⟩ | ⟨h0, a, ha, k, ea, -⟩ | ⟨_, x, g, hx, hg, k, ea, eb, eg, -, -⟩ | ⟨_, x, y, g, hx, hy, hg, k, ea, eb, eg, -, -, -⟩ | ⟨_, x, y, hxy, hy, k, ea, eb, -, -, -, -⟩ | ⟨_, x, h2, hx, k, ea, -, -, -, -, -⟩ | ⟨_, x, y, h2, hxy, hy, k, ea, eb, -, -, -, -⟩ | ⟨_, x, y, z, h2, hx, hy, hz, hne, k, ea, eb, eg, -, -, -⟩
    · by_cases z : m = 2
      · subst z
        have : hf κ α β γ 2 = true := (hf_iff hS hN hm).mpr (Or.inl k)
        rw [hf0] at this
        cases this
      · rw [sb_c (by omega) k, sb_c (by omega) k]
    · rw [sb_e (by omega) (Or.inl k) ea, sb_e (by omega) (Or.inl k) ea]
    · rw [sb_e (by omega) (Or.inr k) ea, sb_e (by omega) (Or.inr k) ea]
    · have n4 : ¬ κ m ≤ 4 := by rw [k]; decide
      rw [sb_5a hS hN hm hg hx k ea eb eg, sb_5a hS hN hm hg hx k ea eb eg, hp x hx ⟨n4, Or.inl ea⟩]
    · have n4 : ¬ κ m ≤ 4 := by rw [k]; decide
      rw [sb_5b hS hN hm hg hx hy k ea eb eg, sb_5b hS hN hm hg hx hy k ea eb eg, hp x hx ⟨n4, Or.inl ea⟩, hp y hy ⟨n4, Or.inr (Or.inl eb)⟩]
    · have n4 : ¬ κ m ≤ 4 := by rw [k]; decide
      rw [sb_6 hS hN hm (by omega) hy k ea eb, sb_6 hS hN hm (by omega) hy k ea eb, hp x (by omega) ⟨n4, Or.inl ea⟩, hp y hy ⟨n4, Or.inr (Or.inl eb)⟩]
    · have n4 : ¬ κ m ≤ 4 := by rw [k]; decide
      rw [sb_7 hS hN hm hx k ea, sb_7 hS hN hm hx k ea, hp x hx ⟨n4, Or.inl ea⟩]
    · have n4 : ¬ κ m ≤ 4 := by rw [k]; decide
      rw [sb_8 hS hN hm (by omega) hy k ea eb, sb_8 hS hN hm (by omega) hy k ea eb, hp x (by omega) ⟨n4, Or.inl ea⟩, hp y hy ⟨n4, Or.inr (Or.inl eb)⟩]
    · have n4 : ¬ κ m ≤ 4 := by rw [k]; decide
      rw [sb_9 hS hN hm hx hy hz k ea eb eg, sb_9 hS hN hm hx hy hz k ea eb eg, hp x hx ⟨n4, Or.inl ea⟩, hp y hy ⟨n4, Or.inr (Or.inl eb)⟩, hp z hz ⟨n4, Or.inr (Or.inr ⟨k, eg⟩)⟩]
end NOF
/-- the two faces hold the same -/
def Rel (r c f E N I : Nat) (S : qS) : Prop :=
  (∀ m, m < N → S.1 r 3 m = S.1 f 0 m ∧ S.1 r 4 m = S.1 f 1 m ∧ S.1 r 5 m = S.1 f 2 m ∧ S.1 r 6 m = S.1 f 3 m) ∧
  (∀ e, e < E → S.1 r 11 e = S.1 c 1 e) ∧
  (∀ e, e < E → (S.1 c 2 e = -1 ∧ S.1 r 13 e = 0 ∧ S.1 r 12 e = S.1 r 11 e) ∨ (¬ S.1 c 2 e = -1 ∧ S.1 r 13 e = 1 ∧ S.1 r 12 e = S.1 c 2 e)) ∧
  (∀ e, e < E → (S.1 c 3 e = -1 ∧ S.1 r 15 e = 0) ∨ (¬ S.1 c 3 e = -1 ∧ S.1 r 15 e = 1 ∧ S.1 r 14 e = S.1 c 3 e)) ∧
  ∀ k, k < I → S.1 r 16 k = S.1 c 4 k
section RELC
variable {O : qOb9} {r c f E N A I : Nat} {S : qS} {eS : Nat → Bool}
theorem st0_eq (hR : RI r E N A I S eS) {e : Nat} (he : e < E) : st0R S r e = st0C eS e := by
  obtain ⟨⟨⟨f1, f2, f3, f4, f5⟩, _⟩, i2, _⟩ := hR
  obtain ⟨m, hm, em, k, a, w⟩ := i2 e he
  unfold st0R st0C
  rw [em, show tN (nI m) = m from nI_clamp (by omega)]
  cases q : eS e with
  | true =>
    rw [if_pos rfl]
    obtain ⟨_, e', he', _, ea, ec⟩ := row_3 f5.2.1 (by omega) f4 hm (w.mpr q)
    rw [show rCd S r m = _ from ec, (nI_eq (by omega) (by omega)).mp (ea.symm.trans a)]
  | false =>
    rw [if_neg (by decide)]
    obtain ⟨_, e', he', _, ea, ec⟩ := row_4 f5.2.1 (by omega) f4 hm (k.resolve_left (fun z => by rw [w.mp z] at q; cases q))
    rw [show rCd S r m = _ from ec, (nI_eq (by omega) (by omega)).mp (ea.symm.trans a)]
theorem sbR_eq (hR : RI r E N A I S eS) (hC : CoI O c f E N I S eS) (hL : Rel r c f E N I S) {fc : Nat} {st st' : Nat → Nat} (hst : ∀ e, e < E → st e = st' e) {m : Nat} (hm : m < N) : rSb S r st fc m = fSb S f st' fc m :=
  sb_congr hC.1.2.2.2.1.2.1 (CS_big hC.1).1 hC.2.1 (fun q hq => hL.1 q hq) hst m hm
theorem stp_eq (hR : RI r E N A I S eS) (hC : CoI O c f E N I S eS) (hL : Rel r c f E N I S) {fc : Nat} {st st' : Nat → Nat} (hst : ∀ e, e < E → st e = st' e) {e : Nat} (he : e < E) : stp S r fc st e = stpT S c f 2 fc st' e := by
  have hN31 := (CS_big hC.1).1
  unfold stp stpT
  rcases hL.2.2.1 e he with ⟨a1, a2, a3⟩ | ⟨a1, a2, a3⟩
  · rw [if_pos a1, a3]
    obtain ⟨⟨⟨f1, f2, f3, f4, f5⟩, _⟩, i2, _⟩ := hR
    obtain ⟨m, hm, em, k, a, w⟩ := i2 e he
    rw [em, show tN (nI m) = m from nI_clamp (by omega), ← hst e he]
    exact sb_e (by omega) k a
  · rw [if_neg a1, a3]
    rcases hC.2.2.2.2.2.1 e he with z | ⟨m, hm, em, _⟩
    · exact absurd z a1
    · rw [em, show tN (nI m) = m from nI_clamp (by omega)]
      exact sbR_eq hR hC hL hst hm
theorem itr_eq (hR : RI r E N A I S eS) (hC : CoI O c f E N I S eS) (hL : Rel r c f E N I S) {fc : Nat} : ∀ (d : Nat) (st st' : Nat → Nat), (∀ e, e < E → st e = st' e) → ∀ e, e < E → itr (stp S r fc) d st e = itr (stpT S c f 2 fc) d st' e := by
  intro d
  induction d with
  | zero => intro st st' h e he; exact h e he
  | succ d ih =>
    intro st st' h e he
    exact ih _ _ (fun e he => stp_eq hR hC hL h he) e he
theorem one_eq (hR : RI r E N A I S eS) (hC : CoI O c f E N I S eS) (hL : Rel r c f E N I S) (d : Nat) {e : Nat} (he : e < E) : oneR S r d e = oneC S c f d eS e :=
  itr_eq hR hC hL d _ _ (fun _ h => stp_eq hR hC hL (fun _ h' => st0_eq hR h') h) e he
theorem oth_eq (hR : RI r E N A I S eS) (hC : CoI O c f E N I S eS) (hL : Rel r c f E N I S) (d : Nat) {e : Nat} (he : e < E) (hs : ¬ S.1 c 3 e = -1) : othR S r d e = othC S c f d eS e := by
  have hN31 := (CS_big hC.1).1
  unfold othR othC stpT
  rw [if_neg hs]
  rcases hL.2.2.2.1 e he with ⟨a1, _⟩ | ⟨_, _, a3⟩
  · exact absurd a1 hs
  · rcases hC.2.2.2.2.2.2.1 e he with z | ⟨m, hm, em, _, hh⟩
    · exact absurd z hs
    · rw [a3, em, show tN (nI m) = m from nI_clamp (by omega)]
      rw [sbR_eq hR hC hL (fun e he => itr_eq hR hC hL d _ _ (fun _ h' => st0_eq hR h') e he) hm]
      exact sb_nof hC.1.2.2.2.1.2.1 hN31 hC.2.1 m hm hh
theorem iv_eq (hC : CoI O c f E N I S eS) (hL : Rel r c f E N I S) {k : Nat} (hk : k < I) : ivR S r k = ivC S c f k := by
  have hN31 := (CS_big hC.1).1
  obtain ⟨m, hm, em, _⟩ := hC.2.2.2.2.2.2.2.2.2 k hk
  unfold ivR ivC
  rw [hL.2.2.2.2 k hk, em, show tN (nI m) = m from nI_clamp (by omega)]
  exact cd_congr hC.1.2.2.2.1.2.1 hN31 (fun q hq => hL.1 q hq) m hm
theorem kp_eq (hR : RI r E N A I S eS) (hC : CoI O c f E N I S eS) (hL : Rel r c f E N I S) {k : Nat} (hk : k < I) : kpR S r k = kpC S c f eS k := by
  have hN31 := (CS_big hC.1).1
  obtain ⟨m, hm, em, _⟩ := hC.2.2.2.2.2.2.2.2.2 k hk
  unfold kpR kpC
  rw [hL.2.2.2.2 k hk, em, show tN (nI m) = m from nI_clamp (by omega)]
  exact sbR_eq hR hC hL (fun _ h => stp_eq hR hC hL (fun _ h' => st0_eq hR h') h) hm
theorem sn_eq (hL : Rel r c f E N I S) : snR S r E = snC S c E := by
  funext e
  have : snR S r E e = true ↔ snC S c E e = true := by
    rw [snR_iff, snC_iff]
    constructor
    · rintro ⟨a, b⟩
      refine ⟨a, ?_⟩
      rcases hL.2.2.2.1 e a with ⟨z1, z2⟩ | ⟨z1, _⟩
      · exact absurd z2 b
      · exact z1
    · rintro ⟨a, b⟩
      refine ⟨a, ?_⟩
      rcases hL.2.2.2.1 e a with ⟨z1, z2⟩ | ⟨z1, z2, _⟩
      · exact absurd z1 b
      · rw [z2]; decide
  cases q : snC S c E e with
  | true => exact this.mpr q
  | false =>
    cases q' : snR S r E e with
    | false => rfl
    | true => rw [this.mp q'] at q; cases q
end RELC
/-- what is asked counts, not how it is written -/
theorem Outc_congr {D : Nat → Prop} {E I : Nat} {iv iv' c1 c1' c2 c2' : Nat → Nat} {sn eS : Nat → Bool} {y fet dif : Int32} {dw dt : Nat} {wit : Nat → Int32} (h1 : ∀ k, k < I → iv k = iv' k) (h2 : ∀ e, sn e = true → c1 e = c1' e ∧ c2 e = c2' e) (h : Outc D (PD D) E I iv sn c1 c2 eS y dw dt wit fet dif) : Outc D (PD D) E I iv' sn c1' c2' eS y dw dt wit fet dif := by
  unfold Outc at h ⊢
  rw [QF_congr h1 h2] at h
  obtain ⟨a, b, h⟩ := h
  refine ⟨a, b, ?_⟩
  rcases h with h | ⟨sm, h | ⟨y0, s, e, l, e16, f, m, w⟩⟩
  · exact Or.inl h
  · exact Or.inr ⟨sm, Or.inl h⟩
  · refine Or.inr ⟨sm, Or.inr ⟨y0, s, e, l, e16, ?_, fun e' he' z => m e' he' ?_, w⟩⟩
    · obtain ⟨F, hF⟩ := f
      exact ⟨F, (FailsV_congr h1 h2).mp hF⟩
    · obtain ⟨F, hF⟩ := z
      exact ⟨F, (FailsV_congr h1 h2).mpr hF⟩
theorem rts_congr {I : Nat} {iv iv' c1 c1' c2 c2' : Nat → Nat} {sn : Nat → Bool} (h1 : ∀ k, k < I → iv k = iv' k) (h2 : ∀ e, sn e = true → c1 e = c1' e ∧ c2 e = c2' e) : rts I iv sn c1 c2 = rts I iv' sn c1' c2' := by
  funext c
  apply propext
  unfold rts
  constructor
  · rintro (⟨e, he, z | z⟩ | ⟨k, hk, z⟩)
    · exact Or.inl ⟨e, he, Or.inl (by rw [z, (h2 e he).1])⟩
    · exact Or.inl ⟨e, he, Or.inr (by rw [z, (h2 e he).2])⟩
    · exact Or.inr ⟨k, hk, by rw [z, h1 k hk]⟩
  · rintro (⟨e, he, z | z⟩ | ⟨k, hk, z⟩)
    · exact Or.inl ⟨e, he, Or.inl (by rw [z, (h2 e he).1])⟩
    · exact Or.inl ⟨e, he, Or.inr (by rw [z, (h2 e he).2])⟩
    · exact Or.inr ⟨k, hk, by rw [z, h1 k hk]⟩
theorem rtk_congr {I c0 : Nat} {iv iv' : Nat → Nat} (h1 : ∀ k, k < I → iv k = iv' k) : rtk I iv c0 = rtk I iv' c0 := by
  funext c
  apply propext
  unfold rtk
  constructor
  · rintro (z | ⟨k, hk, z⟩)
    · exact Or.inl z
    · exact Or.inr ⟨k, hk, by rw [z, h1 k hk]⟩
  · rintro (z | ⟨k, hk, z⟩)
    · exact Or.inl z
    · exact Or.inr ⟨k, hk, by rw [z, h1 k hk]⟩
section RELO
variable {O : qOb9} {r c f E N A I : Nat} {S : qS} {eS : Nat → Bool} {y fet dif : Int32} {dw dt : Nat} {wit : Nat → Int32}
theorem Outc_run (hR : RI r E N A I S eS) (hC : CoI O c f E N I S eS) (hL : Rel r c f E N I S) {d : Nat} (h : Outc (Dp (rts I (ivR S r) (snR S r E) (oneR S r d) (othR S r d))) (PD (Dp (rts I (ivR S r) (snR S r E) (oneR S r d) (othR S r d)))) E I (ivR S r) (snR S r E) (oneR S r d) (othR S r d) eS y dw dt wit fet dif) :
    Outc (Dp (rts I (ivC S c f) (snC S c E) (oneC S c f d eS) (othC S c f d eS))) (PD (Dp (rts I (ivC S c f) (snC S c E) (oneC S c f d eS) (othC S c f d eS)))) E I (ivC S c f) (snC S c E) (oneC S c f d eS) (othC S c f d eS) eS y dw dt wit fet dif := by
  have h1 : ∀ k, k < I → ivR S r k = ivC S c f k := fun k hk => iv_eq hC hL hk
  have h2 : ∀ e, snC S c E e = true → oneR S r d e = oneC S c f d eS e ∧ othR S r d e = othC S c f d eS e := fun e he => ⟨one_eq hR hC hL d (snC_iff.mp he).1, oth_eq hR hC hL d (snC_iff.mp he).1 (snC_iff.mp he).2⟩
  rw [sn_eq hL, rts_congr h1 h2] at h
  exact Outc_congr h1 h2 h
theorem Outc_kept (hR : RI r E N A I S eS) (hC : CoI O c f E N I S eS) (hL : Rel r c f E N I S) {k : Nat} (hk : k < I) (h : Outc (Dp (rtk I (ivR S r) (kpR S r k))) (PD (Dp (rtk I (ivR S r) (kpR S r k)))) E I (ivR S r) sn16 (fun _ => kpR S r k) (fun _ => cT) eS y dw dt wit fet dif) :
    Outc (Dp (rtk I (ivC S c f) (kpC S c f eS k))) (PD (Dp (rtk I (ivC S c f) (kpC S c f eS k)))) E I (ivC S c f) sn16 (fun _ => kpC S c f eS k) (fun _ => cT) eS y dw dt wit fet dif := by
  have h1 : ∀ k, k < I → ivR S r k = ivC S c f k := fun k hk => iv_eq hC hL hk
  rw [rtk_congr h1, kp_eq hR hC hL hk] at h
  exact Outc_congr h1 (fun _ _ => ⟨rfl, rfl⟩) h
end RELO
