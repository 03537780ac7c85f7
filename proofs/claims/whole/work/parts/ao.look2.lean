section LOOK2
variable {O : qOb9} {x c u p f w q s l n r E A nw na nt I Kc : Nat} {V S0 T : qS} {lam : Nat → Nat} {ν : Nat → Nat}
theorem pow_nt {nt t : Nat} (h : nt ≤ 6) (ht : t < 2 ^ nt) : t < 64 := Nat.lt_of_lt_of_le ht (Nat.pow_le_pow_right (by omega) h)
theorem cls_look (h : SX O x c u p f w q s l r E A nw na nt I Kc V S0 lam) (hn : 7000 ≤ n) (hT : TF s l S0 T) (hP : PR r A (nw + na) nt l V lam T (nw + na) ν) (hv : ∀ i, i < nw + na → T.1 s 5 i = nI (ν i)) {B : Bt} (hB : BR s nw T B) {st : Int64} (hst : ∀ t, t < 64 → bt st t = true → okS q S0 r V nw (nw + na) nt I lam t ν (nw + na)) {Vis : (Nat → Nat) → Prop} (hV : BIv nw nt (FC q S0 r V A (nw + na) nt I Kc) B Vis)
    (hp : ∀ t e, t < 2 ^ nt → bt st t = false → FC q S0 r V A (nw + na) nt I Kc t ν e → leB nw B t ν e) (hd : ∀ t t0 w0 e0, t < 64 → bt st t = true → B = some (t0, w0, e0) → t < t0 ∨ ∀ i, i < nw → w0 i = ν i) :
    ∃ T' B', G_XSearch_look O n s st T = some ((), T') ∧ TF s l S0 T' ∧ T'.1 s 5 = T.1 s 5 ∧ T'.2 = T.2 ∧ BR s nw T' B' ∧ BIv nw nt (FC q S0 r V A (nw + na) nt I Kc) B' (fun v => Vis v ∨ ∀ i, i < nw + na → v i = ν i) ∧ (B' = B ∨ ∃ t0 e0, B' = some (t0, ν, e0)) := by
  have hA := h.hA
  have hO := h.hO
  have hPl := ClO_pl hO
  have hK := h.hK
  have nt6 := h.hR.2.2.2.2.1
  have NE := fun _ : Unit => ClO_ne hO
  obtain ⟨⟨h1, h2, h3, h4, h5, h6, h7⟩, ⟨o1, o2, o3, o4, o5, o6, o7, o8, o9, o10, o11⟩, _, _, _, ⟨ql0, ql1, ql2⟩, _⟩ := hO
  have tq : T.1 q = S0.1 q := hT.1 q (NE ()).2.2.2.2.1.1
  have loop : ∀ (d i fu : Nat) (acc : Int64), i + d = Kc → d < fu → ∃ acc', (∀ t, t < 64 → (bt acc' t = true ↔ bt acc t = true ∨ ∃ e, i ≤ e ∧ e < Kc ∧ nv r V (nw + na) nt t ν (tN (S0.1 q 1 e)) = 1)) ∧ G_XSearch_look_5 O n fu s st acc (nI i) T = G_XSearch_look_5 O n 1 s st acc' (nI Kc) T := by
    intro d
    induction d with
    | zero =>
      intro i fu acc e hf
      obtain ⟨fu, rfl⟩ : ∃ q, fu = q + 1 := ⟨fu - 1, by omega⟩
      have e0 : i = Kc := by omega
      subst e0
      refine ⟨acc, fun t ht => ⟨fun z => Or.inl z, fun z => z.elim id (fun ⟨e, a, b, _⟩ => by omega)⟩, ?_⟩
      rw [G_XSearch_look_5, G_XSearch_look_5, uO (ci := 8) h6 (by decide), o9, uI (ci := 7) h5 (by decide), tq, h.q4, if_pos (nI_le (by omega) (by omega)), uO (ci := 8) h6 (by decide), o9, uI (ci := 7) h5 (by decide), tq, h.q4, if_pos (nI_le (by omega) (by omega))]
    | succ d ih =>
      intro i fu acc e hf
      obtain ⟨fu, rfl⟩ : ∃ q, fu = q + 1 := ⟨fu - 1, by omega⟩
      obtain ⟨m, hm, em, tm, bm⟩ := cl_bit h hP (show i < Kc by omega)
      have i1 : i < oN O q 1 := by rw [ql1]; omega
      obtain ⟨acc', a1, a2⟩ := ih (i + 1) fu (acc ||| T.2 l 1 m) (by omega) (by omega)
      refine ⟨acc', fun t ht => ?_, ?_⟩
      · rw [a1 t ht, bt_or, Bool.or_eq_true, bm t ht]
        constructor
        · rintro ((z | z) | ⟨e, z1, z2, z3⟩)
          · exact Or.inl z
          · exact Or.inr ⟨i, Nat.le_refl i, by omega, by rw [tm]; exact z⟩
          · exact Or.inr ⟨e, by omega, z2, z3⟩
        · rintro (z | ⟨e, z1, z2, z3⟩)
          · exact Or.inl (Or.inl z)
          · by_cases y : e = i
            · subst y; rw [tm] at z3; exact Or.inl (Or.inr z3)
            · exact Or.inr ⟨e, by omega, z2, z3⟩
      · rw [G_XSearch_look_5, uO (ci := 8) h6 (by decide), o9, uI (ci := 7) h5 (by decide), tq, h.q4, if_neg (nI_ge (by omega) (by omega)), uO (ci := 8) h6 (by decide), o10, uO (ci := 8) h6 (by decide), o9, uA (ci := 7) h5 (by decide), ul (ci := 7) h5 (by decide) i1 (by omega), tq, em, uk (ci := 5) h7, cls_truthOf hPl (by omega), yC_some, hB_eq, hB_eq, nI_1]
        exact a2
  obtain ⟨acc, a1, a2⟩ := loop Kc 0 n 0 (by omega) (by omega)
  rw [nI_0] at a2
  unfold G_XSearch_look
  rw [a2, G_XSearch_look_5, uO (ci := 8) h6 (by decide), o9, uI (ci := 7) h5 (by decide), tq, h.q4, if_pos (nI_le (by omega) (by omega)), hB_eq]
  have fl : ∀ t, t < 64 → (bt (acc &&& st) t = true ↔ bt st t = true ∧ ∃ e, e < Kc ∧ nv r V (nw + na) nt t ν (tN (S0.1 q 1 e)) = 1) := fun t ht => by
    rw [bt_and, Bool.and_eq_true, a1 t ht, bt_0]
    constructor
    · rintro ⟨z | ⟨e, _, z2, z3⟩, y⟩
      · exact absurd z (by decide)
      · exact ⟨y, e, z2, z3⟩
    · rintro ⟨y, e, z2, z3⟩
      exact ⟨Or.inr ⟨e, Nat.zero_le e, z2, z3⟩, y⟩
  have hFc : ∀ t v e, (∀ i, i < nw + na → v i = ν i) → FC q S0 r V A (nw + na) nt I Kc t v e → FC q S0 r V A (nw + na) nt I Kc t ν e := fun t v e hv hf => FC_congr hv hf
  by_cases z0 : (acc &&& st) = 0
  · rw [if_pos ((lg_cmp_eq _ _).mpr z0)]
    refine ⟨T, B, rfl, hT, rfl, rfl, hB, BIv_more hV (fun t v e ht hvv hf => ?_), Or.inl rfl⟩
    have hf' := hFc t v e hvv hf
    refine leB_congr (v := ν) ?_ (fun i hi => (hvv i (by omega)).symm)
    cases y : bt st t with
    | false => exact hp t e ht y hf'
    | true =>
      have := (fl t (pow_nt nt6 ht)).mpr ⟨y, e, hf'.2.2.1, hf'.2.2.2⟩
      rw [z0, bt_0] at this
      exact absurd this (by decide)
  · rw [if_neg (fun y => z0 ((lg_cmp_eq _ _).mp y)), cls_bitCount, yC_some]
    obtain ⟨t', ht', hb', hl'⟩ := low_ex z0
    rw [low_index ht' hb' hl', uk (ci := 8) h6]
    obtain ⟨bs, hex⟩ := (fl t' ht').mp hb'
    obtain ⟨e', y1, y2, y3, y4⟩ := cls_lowest (n := n) h hn hT hP ht' hex
    have ho := hst t' ht' bs
    have hf' := okS_all h ho y2 y3
    rw [y1, yC_some]
    have key := BIv_look (K := nw + na) (by omega) hV hFc ho.1 hf' (fun t e ht hf => by
      cases y : bt st t with
      | false => exact Or.inl (hp t e ht y hf)
      | true =>
        right
        have bf := (fl t (pow_nt nt6 ht)).mpr ⟨y, e, hf.2.2.1, hf.2.2.2⟩
        have hle : t' ≤ t := Nat.le_of_not_lt fun q => by rw [hl' t q] at bf; exact absurd bf (by decide)
        by_cases q : t' = t
        · subst q
          exact Or.inr ⟨rfl, Nat.le_of_not_lt fun q => y4 e q hf.2.2.2⟩
        · exact Or.inl (by omega)) (fun t0 w0 e0 eb => hd t' t0 w0 e0 ht' bs eb)
    have upd : (∀ t0 w0 e0, B = some (t0, w0, e0) → t' < t0 ∨ (t' = t0 ∧ e' < e0)) → ∃ T' B', G_XSearch_look_100 O n s (nI t') (nI e') T = some ((), T') ∧ TF s l S0 T' ∧ T'.1 s 5 = T.1 s 5 ∧ T'.2 = T.2 ∧ BR s nw T' B' ∧ BIv nw nt (FC q S0 r V A (nw + na) nt I Kc) B' (fun v => Vis v ∨ ∀ i, i < nw + na → v i = ν i) ∧ (B' = B ∨ ∃ t0 e0, B' = some (t0, ν, e0)) := by
      intro hb
      obtain ⟨T', t1, t2, t3, t4, t5⟩ := cls_look_100 (n := n) (e := e') h hT hv ht' (by omega)
      exact ⟨T', _, t1, t2, t3, t4, t5, key.1 hb, Or.inr ⟨t', e', rfl⟩⟩
    rw [uI (ci := 8) h6 (by decide)]
    unfold G_XSearch_look_129
    rcases hB with ⟨bn, b13, b14⟩ | ⟨t0, w0, e0, eb, ht0, he0, b13, b14, b9⟩
    · rw [b13, if_pos (nI_lt (by omega) (by omega))]
      exact upd (fun t0 w0 e0 eb => by rw [bn] at eb; cases eb)
    · have eq : ∀ t1 w1 e1, B = some (t1, w1, e1) → t1 = t0 ∧ e1 = e0 := fun t1 w1 e1 e2 => by
        rw [eb] at e2
        injection e2 with e2
        injection e2 with e3 e4
        injection e4 with e5 e6
        exact ⟨e3.symm, e6.symm⟩
      rw [b13]
      by_cases z1 : t' < t0
      · rw [if_pos (nI_lt (by omega) (by omega))]
        exact upd (fun t1 w1 e1 e2 => by rw [(eq t1 w1 e1 e2).1]; exact Or.inl z1)
      · rw [if_neg (fun y => z1 ((nI_ltI (by omega) (by omega)).mp y)), uI (ci := 8) h6 (by decide), b13]
        by_cases z2 : t' = t0
        · rw [if_pos (by rw [z2]), uI (ci := 8) h6 (by decide), b14]
          by_cases z3 : e0 ≤ e'
          · rw [if_pos (nI_le z3 (by omega))]
            exact ⟨T, B, rfl, hT, rfl, rfl, Or.inr ⟨t0, w0, e0, eb, ht0, he0, b13, b14, b9⟩, key.2 t0 w0 e0 eb (Or.inr ⟨z2.symm, z3⟩), Or.inl rfl⟩
          · rw [if_neg (nI_ge (by omega) (by omega))]
            exact upd (fun t1 w1 e1 e2 => by rw [(eq t1 w1 e1 e2).1, (eq t1 w1 e1 e2).2]; exact Or.inr ⟨z2, by omega⟩)
        · rw [if_neg (fun y => z2 ((nI_eq (by omega) (by omega)).mp y))]
          exact ⟨T, B, rfl, hT, rfl, rfl, Or.inr ⟨t0, w0, e0, eb, ht0, he0, b13, b14, b9⟩, key.2 t0 w0 e0 eb (Or.inl (by omega)), Or.inl rfl⟩
end LOOK2
