/-! WHAT THE CLASS'S SEARCH MEANS -/
def ivq (S : qS) (q w k : Nat) : Nat := cCd S w (tN (S.1 q 0 k))
def clq (S : qS) (q w i : Nat) : Nat := cCd S w (tN (S.1 q 1 i))
def snq (Kc i : Nat) : Bool := decide (i < Kc)
theorem snq_iff {Kc i : Nat} : snq Kc i = true ↔ i < Kc := decide_eq_true_iff
section CSEM
variable {O : qOb9} {x c u p f w q s l n E M nw na nt I Kc : Nat} {S S3 : qS} {lam : Nat → Nat} {eS : Nat → Bool}
theorem vRQ (h : SX O x c u p f w q s l 0 16 M nw na nt I Kc (vS S3 p w q s M nw na nt I Kc) S3 lam) : RQ 0 16 M (vS S3 p w q s M nw na nt I Kc) (-1) I (ivq S3 q w) (snq Kc) (clq S3 q w) (fun _ => cF) := by
  have hA := h.hA
  have hK := h.hK
  have h3 := h.hX.2.2.1.1
  have rOk := h.hX.2.2.1.2.1
  refine ⟨rfl, rfl, h.hI, fun k hk => ?_, Or.inl ⟨rfl, fun e => ?_, fun e he => ?_⟩⟩
  · obtain ⟨m, hm, em, dm, wm, _⟩ := h.inv k hk
    refine ⟨m, hm, em, dm, ?_, wm⟩
    unfold ivq
    rw [em, show tN (nI m) = m from nI_clamp (by omega)]
    rfl
  · rw [snq_iff, v15]
    constructor
    · intro z
      rw [if_pos z]
      exact ⟨by omega, by decide⟩
    · rintro ⟨_, z⟩
      by_cases y : e < Kc
      · exact y
      · rw [if_neg y] at z; exact absurd rfl z
  · obtain ⟨m, hm, em, dm, wm⟩ := h.clm e (snq_iff.mp he)
    have c0 : rCd (vS S3 p w q s M nw na nt I Kc) 0 0 = cF := (cd_0 h.hX.2.2.1 (by omega) h.hE).1
    refine ⟨m, 0, hm, by omega, em, v20 e, dm, vMk.mpr (Or.inl rfl), ?_, c0, ?_⟩
    · unfold clq
      rw [em, show tN (nI m) = m from nI_clamp (by omega)]
      rfl
    · rw [wm, ← cd_wc rOk (by omega) h.hE 0 (by omega), show cd _ _ _ _ 0 = cF from c0, wc_pr (by decide)]
      rfl
theorem FE_FC (h : SX O x c u p f w q s l 0 16 M nw na nt I Kc (vS S3 p w q s M nw na nt I Kc) S3 lam) {t e : Nat} {v : Nat → Nat} (hv : ∀ i, i < nw + na → v i ≤ 7) : FE 0 (vS S3 p w q s M nw na nt I Kc) M (nw + na) I (ivq S3 q w) (snq Kc) (clq S3 q w) (fun _ => cF) (tau 0 (vS S3 p w q s M nw na nt I Kc) nt t) v e ↔ FC q S3 0 (vS S3 p w q s M nw na nt I Kc) M (nw + na) nt I Kc t v e := by
  have hA := h.hA
  constructor
  · rintro ⟨f1, f2, f3, f4⟩
    have he := snq_iff.mp f3
    refine ⟨f1, f2, he, ?_⟩
    obtain ⟨m, hm, em, dm, wm⟩ := h.clm e he
    have b := nv_01 (t := t) (nt := nt) h.hE h.hX hv hm wm
    have t1 : tN (S3.1 q 1 e) = m := by rw [em]; exact nI_clamp (by omega)
    have f4' : ¬ nv 0 (vS S3 p w q s M nw na nt I Kc) (nw + na) nt t v (tN (S3.1 q 1 e)) = 0 := fun z => f4 (by rw [val_F]; exact z)
    rw [t1] at f4' ⊢
    omega
  · rintro ⟨f1, f2, f3, f4⟩
    refine ⟨f1, f2, snq_iff.mpr f3, fun z => ?_⟩
    rw [val_F] at z
    have : nv 0 (vS S3 p w q s M nw na nt I Kc) (nw + na) nt t v (tN (S3.1 q 1 e)) = 0 := z
    omega
theorem vElO (hE : E ≤ 16) (hC : CS O w 5732 2048 S3 E M) (hEl : ElW w S3 E eS) (hhi : 3 + E ≤ M ∧ ∀ m, 3 + E ≤ m → m < M → ¬ S3.1 w 0 m ≤ 4) : ElO 0 M (vS S3 p w q s M nw na nt I Kc) := by
  intro m m' e e' hmm hm' km km' em em' he he'
  obtain ⟨a, ha, e1, e2, _⟩ := el_node hE hC hEl hhi (show m < M by omega) km
  obtain ⟨a', ha', e1', e2', _⟩ := el_node hE hC hEl hhi hm' km'
  have q1 := (nI_eq (by omega) (by omega)).mp (em.symm.trans e2)
  have q2 := (nI_eq (by omega) (by omega)).mp (em'.symm.trans e2')
  omega
/-- the best of all is the least state, and the least claim there -/
theorem cls_sem (h : SX O x c u p f w q s l 0 16 M nw na nt I Kc (vS S3 p w q s M nw na nt I Kc) S3 lam) (hO : ElO 0 M (vS S3 p w q s M nw na nt I Kc)) {B : Bt} (hB : BIv nw nt (FC q S3 0 (vS S3 p w q s M nw na nt I Kc) M (nw + na) nt I Kc) B (fun v => rgP tt1 v (nw + na))) :
    Qin (PD (DC 0 M (vS S3 p w q s M nw na nt I Kc))) (QF I (ivq S3 q w) (snq Kc) (clq S3 q w) (fun _ => cF)) ∧
    ((B = none ∧ ¬ ∃ s', X (PD (DC 0 M (vS S3 p w q s M nw na nt I Kc))) (QF I (ivq S3 q w) (snq Kc) (clq S3 q w) (fun _ => cF)) s') ∨
     ∃ t0 w0 e0, B = some (t0, w0, e0) ∧ t0 < 2 ^ nt ∧ e0 < Kc ∧ Lst (PD (DC 0 M (vS S3 p w q s M nw na nt I Kc))) (QF I (ivq S3 q w) (snq Kc) (clq S3 q w) (fun _ => cF)) (stt (PD (DC 0 M (vS S3 p w q s M nw na nt I Kc))) nt t0 w0) ∧ (∃ F, FailsV I (ivq S3 q w) (snq Kc) (clq S3 q w) (fun _ => cF) (ivl (zs (stt (PD (DC 0 M (vS S3 p w q s M nw na nt I Kc))) nt t0 w0)) F) e0) ∧ ∀ e', e' < e0 → ¬ ∃ F, FailsV I (ivq S3 q w) (snq Kc) (clq S3 q w) (fun _ => cF) (ivl (zs (stt (PD (DC 0 M (vS S3 p w q s M nw na nt I Kc))) nt t0 w0)) F) e') := by
  have hQ := vRQ h
  have l7 := h.hR.2.2.2.1
  have b7 : ∀ {v : Nat → Nat}, rgP tt1 v (nw + na) → ∀ i, i < nw + na → v i ≤ 7 := fun hv i hi => by have := rg_le hv hi; omega
  obtain ⟨p1', p2', p3', p4', p5'⟩ := RL_pl h.hE h.hX h.hR hO
  have sem := fun {e : Nat} {t : Nat} {w' : Nat → Nat} (hw : rgP tt1 w' nw) => FT_sem (t := t) (w := w') (e := e) h.hE h.hX h.hM h.hR hO hQ hw
  have qin := R_Qin h.hE h.hX h.hM hQ
  refine ⟨qin, ?_⟩
  cases B with
  | none =>
    refine Or.inl ⟨rfl, R_none h.hE h.hX h.hM h.hR hO hQ (fun t' w' ht' hw' e' => ?_)⟩
    rintro ⟨v, ⟨g1, g2⟩, hf⟩
    obtain ⟨t0, w0, e0, eb, _⟩ := hB.2 t' v e' ht' g1 ((FE_FC h (b7 g1)).mp hf)
    cases eb
  | some b =>
    obtain ⟨t0, w0, e0⟩ := b
    obtain ⟨ht0, v0, hv0, ev0, hf0⟩ := hB.1 t0 w0 e0 rfl
    have hw0 : rgP tt1 w0 nw := rg_congr (rg_less hv0 (by omega)) ev0
    have ft0 : FT 0 (vS S3 p w q s M nw na nt I Kc) M nw na nt I (ivq S3 q w) (snq Kc) (clq S3 q w) (fun _ => cF) t0 w0 e0 := ⟨v0, ⟨hv0, ev0⟩, (FE_FC h (b7 hv0)).mpr hf0⟩
    have he0 : e0 < Kc := hf0.2.2.1
    have bef : ∀ t' w' e', t' < 2 ^ nt → FT 0 (vS S3 p w q s M nw na nt I Kc) M nw na nt I (ivq S3 q w) (snq Kc) (clq S3 q w) (fun _ => cF) t' w' e' → leB nw (some (t0, w0, e0)) t' w' e' := by
      rintro t' w' e' ht' ⟨v, ⟨g1, g2⟩, hf⟩
      exact leB_congr (hB.2 t' v e' ht' g1 ((FE_FC h (b7 g1)).mp hf)) g2
    obtain ⟨F0, hF0⟩ := (sem hw0).mp ft0
    refine Or.inr ⟨t0, w0, e0, rfl, ht0, he0, Lst_of p1' p2' qin ht0 hw0 ⟨e0, F0, hF0⟩ (fun t' w' ht' hw' hc => ?_), ⟨F0, hF0⟩, fun e' he' z => ?_⟩
    · rintro ⟨e', F, hF⟩
      obtain ⟨t1, w1, e1, eb, hc1⟩ := bef t' w' e' ht' ((sem hw').mpr ⟨F, hF⟩)
      have := Option.some.inj eb
      have q1 : t0 = t1 := congrArg Prod.fst this
      have q2 : w0 = w1 := congrArg (fun z => z.2.1) this
      subst q1 q2
      rcases hc1 with y | ⟨y, y2 | ⟨y2, _⟩⟩
      · rcases hc with z | ⟨z, _⟩ <;> omega
      · rcases hc with z | ⟨_, z⟩
        · omega
        · exact lex_asym z y2
      · rcases hc with z | ⟨_, z⟩
        · omega
        · exact lex_irr z (fun j hj => (y2 j hj).symm)
    · obtain ⟨t1, w1, e1, eb, hc1⟩ := bef t0 w0 e' ht0 ((sem hw0).mpr z)
      have := Option.some.inj eb
      have q1 : t0 = t1 := congrArg Prod.fst this
      have q2 : w0 = w1 := congrArg (fun z => z.2.1) this
      have q3 : e0 = e1 := congrArg (fun z => z.2.2) this
      subst q1 q2 q3
      rcases hc1 with y | ⟨_, y2 | ⟨_, y2⟩⟩
      · omega
      · exact lex_irr y2 (fun _ _ => rfl)
      · omega
/-- the fields that tell are the state's places -/
theorem cls_told (h : SX O x c u p f w q s l 0 16 M nw na nt I Kc (vS S3 p w q s M nw na nt I Kc) S3 lam) (hE : E ≤ 16) (hC : CS O w 5732 2048 S3 E M) (hEl : ElW w S3 E eS) (hhi : 3 + E ≤ M ∧ ∀ m, 3 + E ≤ m → m < M → ¬ S3.1 w 0 m ≤ 4) {t0 : Nat} {w0 : Nat → Nat} {S' : qS}
    (h1 : ∀ k m, k < nt → m < M → S3.1 s 3 k = nI m → (m = 2 → S'.1 u 3 0 = nI (bits nt t0 k)) ∧ ∀ a, a < E → m = 3 + a → S'.1 u 0 a = nI (bits nt t0 k))
    (h2 : ∀ k a, k < nw → a < E → S3.1 s 4 k = nI (3 + a) → S'.1 u 0 a = nI (w0 k))
    (h3 : ∀ a, a < E → S3.1 p 3 (3 + a) = 0 → S'.1 u 0 a = 0) {fx : Int32} (h4 : S3.1 p 3 2 = 0 → S'.1 u 3 0 = fx) :
    (∀ a, a < E → S'.1 u 0 a = nI (if eS a = true then stt (PD (DC 0 M (vS S3 p w q s M nw na nt I Kc))) nt t0 w0 (17 + a) else stt (PD (DC 0 M (vS S3 p w q s M nw na nt I Kc))) nt t0 w0 a)) ∧
    S'.1 u 3 0 = if PD (DC 0 M (vS S3 p w q s M nw na nt I Kc)) 16 = true then nI (stt (PD (DC 0 M (vS S3 p w q s M nw na nt I Kc))) nt t0 w0 16) else fx := by
  have hM := hC.2.2.1
  have hA := h.hA
  have hElO := vElO (p := p) (q := q) (s := s) (nw := nw) (na := na) (nt := nt) (I := I) (Kc := Kc) hE hC hEl hhi
  have hR := h.hR
  obtain ⟨p1', p2', p3', p4', p5'⟩ := RL_pl h.hE h.hX h.hR hElO
  obtain ⟨r23, r24, r25, r7, r6, rW, rWa, rWo, rT, rTa, rTo, rWi⟩ := hR
  -- which node is marked
  have mk : ∀ m i, m < M → 0 < m → i < 33 → cCd S3 w m = zc i → (PD (DC 0 M (vS S3 p w q s M nw na nt I Kc)) i = true ↔ ¬ S3.1 p 3 m = 0) := fun m i hm h0 hi e => by
    rw [PD_iff]
    constructor
    · rintro ⟨_, m', hm', dm', em'⟩
      rw [← e] at em'
      have := cd_inj h.hX.2.2.1 (by omega) h.hE m' m hm' hm em'
      subst this
      exact (vMk.mp dm').elim (fun z => by omega) id
    · intro z
      exact ⟨hi, m, hm, vMk.mpr (Or.inr z), e⟩
  -- a listed truth's bit
  have bt' : ∀ k m i, k < nt → m < M → S3.1 s 3 k = nI m → cCd S3 w m = zc i → i < 17 → PD (DC 0 M (vS S3 p w q s M nw na nt I Kc)) i = true → bits nt t0 k = stt (PD (DC 0 M (vS S3 p w q s M nw na nt I Kc))) nt t0 w0 i := fun k m i hk hm em ec hi hP => by
    unfold stt
    rw [if_pos hP, if_pos hi, ← p3' t0 i (tP_iff.mpr ⟨hi, hP⟩)]
    have et : zc i = tlc 0 (vS S3 p w q s M nw na nt I Kc) k := by
      unfold tlc
      rw [v28, em, show tN (nI m) = m from nI_clamp (by omega)]
      exact ec.symm
    rw [et, tau_w h.hE h.hX h.hR hk]
    rfl
  refine ⟨fun a ha => ?_, ?_⟩
  · have cda := ElW_cd hE hC hEl ha (by omega)
    obtain ⟨k0, k1, _⟩ := hEl a ha
    cases q' : eS a with
    | true =>
      rw [if_pos rfl]
      have ec : cCd S3 w (3 + a) = zc (17 + a) := by
        rw [zc_W, cda.1]
        unfold st0C
        rw [if_pos q']
      have mk' := mk (3 + a) (17 + a) (by omega) (by omega) (by omega) ec
      by_cases d0 : S3.1 p 3 (3 + a) = 0
      · rw [h3 a ha d0]
        unfold stt
        rw [if_neg (fun z => mk'.mp z d0)]
        rfl
      · have hP := mk'.mpr d0
        have kk : S3.1 w 0 (3 + a) = 3 := by rw [k0]; unfold kEl; rw [if_pos q']
        obtain ⟨k, hk, ek⟩ := (rWa (3 + a) (by omega) (vMk.mpr (Or.inr d0))).1 kk
        rw [h2 k a hk ha ek]
        obtain ⟨k', hk', ek', ec'⟩ := p4' (17 + a) (wP_iff.mpr ⟨by omega, hP⟩)
        unfold stt
        rw [if_pos hP, if_neg (by omega), ec']
        obtain ⟨m', hm', em', _⟩ := rW k' (by omega)
        have : m' = 3 + a := by
          refine cd_inj h.hX.2.2.1 (by omega) h.hE m' (3 + a) hm' (by omega) ?_
          unfold wlc at ek'
          rw [em', show tN (nI m') = m' from nI_clamp (by omega), ← ec] at ek'
          exact ek'
        subst this
        rw [rWi k k' (3 + a) (by omega) (by omega) (by omega) ek em']
    | false =>
      rw [if_neg (by decide)]
      have ec : cCd S3 w (3 + a) = zc a := by
        rw [zc_U (by omega), cda.1]
        unfold st0C
        rw [if_neg (by rw [q']; decide)]
      have mk' := mk (3 + a) a (by omega) (by omega) (by omega) ec
      by_cases d0 : S3.1 p 3 (3 + a) = 0
      · rw [h3 a ha d0]
        unfold stt
        rw [if_neg (fun z => mk'.mp z d0)]
        rfl
      · have hP := mk'.mpr d0
        have kk : S3.1 w 0 (3 + a) = 4 := by rw [k0]; unfold kEl; rw [if_neg (by rw [q']; decide)]
        obtain ⟨k, hk, ek⟩ := rTa (3 + a) (by omega) (vMk.mpr (Or.inr d0)) (Or.inl kk)
        rw [(h1 k (3 + a) hk (by omega) ek).2 a ha rfl, bt' k (3 + a) a hk (by omega) ek ec (by omega) hP]
  · have ec : cCd S3 w 2 = zc 16 := by rw [zc_X]; exact (cd_0 h.hX.2.2.1 (by omega) h.hE).2.2
    have mk' := mk 2 16 (by omega) (by omega) (by omega) ec
    by_cases d0 : S3.1 p 3 2 = 0
    · rw [h4 d0, if_neg (fun z => mk'.mp z d0)]
    · have hP := mk'.mpr d0
      have kk : S3.1 w 0 2 = 2 := (k2_2 hC.2.2.2.1 (by omega)).mpr rfl
      obtain ⟨k, hk, ek⟩ := rTa 2 (by omega) (vMk.mpr (Or.inr d0)) (Or.inr kk)
      rw [if_pos hP, (h1 k 2 hk (by omega) ek).1 rfl, bt' k 2 16 hk (by omega) ek ec (by omega) hP]
end CSEM
