/-! THE CLASS LOOKS -/
/-- claim e fails in state t under these numbers -/
def FC (q : Nat) (S0 : qS) (r : Nat) (V : qS) (A K nt I Kc : Nat) (t : Nat) (ν : Nat → Nat) (e : Nat) : Prop :=
  Fun (DC r A V) (LT r V K nt t ν) ∧ (∀ k, k < I → nv r V K nt t ν (tN (S0.1 q 0 k)) = 1) ∧ e < Kc ∧ nv r V K nt t ν (tN (S0.1 q 1 e)) = 1
/-- nothing says against state t up to level g -/
def okS (q : Nat) (S0 : qS) (r : Nat) (V : qS) (nw K nt I : Nat) (lam : Nat → Nat) (t : Nat) (ν : Nat → Nat) (g : Nat) : Prop :=
  t < 2 ^ nt ∧ (∀ k, k < I → lam (tN (S0.1 q 0 k)) ≤ g → nv r V K nt t ν (tN (S0.1 q 0 k)) = 1) ∧ ∀ i j, nw ≤ j → j < i → i < g → okPair (LT r V K nt t ν) (wlc r V i) (wlc r V j)
/-- the best is in its fields -/
def BR (s nw : Nat) (T : qS) (B : Bt) : Prop := (B = none ∧ T.1 s 13 0 = nI 64 ∧ T.1 s 14 0 = nI 0) ∨ ∃ t0 w0 e0, B = some (t0, w0, e0) ∧ t0 < 64 ∧ e0 < 16 ∧ T.1 s 13 0 = nI t0 ∧ T.1 s 14 0 = nI e0 ∧ ∀ i, i < nw → T.1 s 9 i = nI (w0 i)
section LOOK
variable {O : qOb9} {x c u p f w q s l n r E A nw na nt I Kc : Nat} {V S0 T : qS} {lam : Nat → Nat} {ν : Nat → Nat}
theorem Fun_pairs (h : SX O x c u p f w q s l r E A nw na nt I Kc V S0 lam) {L : Nat → Nat} : Fun (DC r A V) L ↔ ∀ i j, nw ≤ j → j < i → i < nw + na → okPair L (wlc r V i) (wlc r V j) := by
  have hA := h.hA
  have ix : ∀ c, DC r A V c → p1 c = 5 → ∃ k, nw ≤ k ∧ k < nw + na ∧ wlc r V k = c := by
    rintro c ⟨m, hm, dm, em⟩ hk
    have kk := (cd_kind h.hX.2.2.1.2.1 (by omega) h.hE hm).1
    obtain ⟨k, h1, h2, ek⟩ := (h.hR.2.2.2.2.2.2.1 m hm dm).2 (by rw [kk, show cd _ _ _ _ m = c from em, hk]; rfl)
    exact ⟨k, h1, h2, by unfold wlc; rw [ek, show tN (nI m) = m from nI_clamp (by omega)]; exact em⟩
  have wl : ∀ k, nw ≤ k → k < nw + na → DC r A V (wlc r V k) ∧ p1 (wlc r V k) = 5 := by
    intro k h1 h2
    obtain ⟨m, hm, em, dm, _, _⟩ := h.hR.2.2.2.2.2.1 k h2
    exact ⟨⟨m, hm, dm, by unfold wlc; rw [em, show tN (nI m) = m from nI_clamp (by omega)]⟩, (LU_w (τ := fun _ => 0) (u := fun _ => 0) h.hE h.hX h.hR h2).2.2 h1⟩
  constructor
  · intro hF i j hj hji hi
    obtain ⟨d1, k1⟩ := wl i (by omega) hi
    obtain ⟨d2, k2⟩ := wl j hj (by omega)
    exact hF _ _ d1 d2 k1 k2
  · intro hp c d hc hd kc kd
    obtain ⟨i, i1, i2, ei⟩ := ix c hc kc
    obtain ⟨j, j1, j2, ej⟩ := ix d hd kd
    rw [← ei, ← ej]
    by_cases z : j < i
    · exact hp i j j1 z i2
    · by_cases y : i = j
      · subst y; exact fun _ _ _ => rfl
      · exact okPair_symm (hp j i i1 (by omega) j2)
theorem LT_congr {K t : Nat} {v : Nat → Nat} (hv : ∀ i, i < K → v i = ν i) : LT r V K nt t v = LT r V K nt t ν := LU_congr hv
theorem FC_congr {K t e : Nat} {v : Nat → Nat} (hv : ∀ i, i < K → v i = ν i) (hf : FC q S0 r V A K nt I Kc t v e) : FC q S0 r V A K nt I Kc t ν e := by
  unfold FC nv at hf ⊢
  rw [show LU r V K (tau r V nt t) v = LU r V K (tau r V nt t) ν from LU_congr hv, show LT r V K nt t v = LT r V K nt t ν from LU_congr hv] at hf
  exact hf
theorem okS_all (h : SX O x c u p f w q s l r E A nw na nt I Kc V S0 lam) {t e : Nat} (ho : okS q S0 r V nw (nw + na) nt I lam t ν (nw + na)) (he : e < Kc) (h1 : nv r V (nw + na) nt t ν (tN (S0.1 q 1 e)) = 1) : FC q S0 r V A (nw + na) nt I Kc t ν e := by
  have hA := h.hA
  refine ⟨(Fun_pairs h).mpr ho.2.2, fun k hk => ho.2.1 k hk ?_, he, h1⟩
  obtain ⟨m, hm, em, dm, _⟩ := h.inv k hk
  rw [em, show tN (nI m) = m from nI_clamp (by omega)]
  exact h.hL.2.1 m hm dm
/-- the planes of a claim -/
theorem cl_bit (h : SX O x c u p f w q s l r E A nw na nt I Kc V S0 lam) (hP : PR r A (nw + na) nt l V lam T (nw + na) ν) {e : Nat} (he : e < Kc) : ∃ m, m < A ∧ S0.1 q 1 e = nI m ∧ tN (S0.1 q 1 e) = m ∧ ∀ t, t < 64 → (bt (T.2 l 1 m) t = true ↔ nv r V (nw + na) nt t ν m = 1) := by
  have hA := h.hA
  obtain ⟨m, hm, em, dm, wm⟩ := h.clm e he
  refine ⟨m, hm, em, by rw [em]; exact nI_clamp (by omega), fun t ht => ?_⟩
  have pm := hP m hm dm (h.hL.2.1 m hm dm) t ht
  rw [wm, if_neg (by decide)] at pm
  have pm' : b1 (bt (T.2 l 1 m) t) = nv r V (nw + na) nt t ν m := pm
  rw [← pm']
  exact b1_one.symm
theorem cls_lowest (h : SX O x c u p f w q s l r E A nw na nt I Kc V S0 lam) (hn : 7000 ≤ n) (hT : TF s l S0 T) (hP : PR r A (nw + na) nt l V lam T (nw + na) ν) {t : Nat} (ht : t < 64) (hex : ∃ e, e < Kc ∧ nv r V (nw + na) nt t ν (tN (S0.1 q 1 e)) = 1) :
    ∃ e, G_XSearch_lowestClaim O n s (nI t) T = some (nI e, T) ∧ e < Kc ∧ nv r V (nw + na) nt t ν (tN (S0.1 q 1 e)) = 1 ∧ ∀ e', e' < e → ¬ nv r V (nw + na) nt t ν (tN (S0.1 q 1 e')) = 1 := by
  have hA := h.hA
  have hO := h.hO
  have hPl := ClO_pl hO
  have hK := h.hK
  have NE := fun _ : Unit => ClO_ne hO
  obtain ⟨⟨h1, h2, h3, h4, h5, h6, h7⟩, ⟨o1, o2, o3, o4, o5, o6, o7, o8, o9, o10, o11⟩, _, _, _, ⟨ql0, ql1, ql2⟩, _⟩ := hO
  have tq : T.1 q = S0.1 q := hT.1 q (NE ()).2.2.2.2.1.1
  have loop : ∀ (d i fu : Nat), i + d = Kc → d < fu → (∃ e, i ≤ e ∧ e < Kc ∧ nv r V (nw + na) nt t ν (tN (S0.1 q 1 e)) = 1) → ∃ e, G_XSearch_lowestClaim_2 O n fu s (nI t) (nI i) T = some (nI e, T) ∧ i ≤ e ∧ e < Kc ∧ nv r V (nw + na) nt t ν (tN (S0.1 q 1 e)) = 1 ∧ ∀ e', i ≤ e' → e' < e → ¬ nv r V (nw + na) nt t ν (tN (S0.1 q 1 e')) = 1 := by
    intro d
    induction d with
    | zero =>
      rintro i fu e hf ⟨e', a, b, _⟩
      omega
    | succ d ih =>
      rintro i fu e hf ⟨e', a, b, hv⟩
      obtain ⟨fu, rfl⟩ : ∃ q, fu = q + 1 := ⟨fu - 1, by omega⟩
      obtain ⟨m, hm, em, tm, bm⟩ := cl_bit h hP (show i < Kc by omega)
      have i1 : i < oN O q 1 := by rw [ql1]; omega
      rw [G_XSearch_lowestClaim_2, uO (ci := 8) h6 (by decide), o9, uI (ci := 7) h5 (by decide), tq, h.q4, if_neg (nI_ge (by omega) (by omega)), uO (ci := 8) h6 (by decide), o10, uO (ci := 8) h6 (by decide), o9, uA (ci := 7) h5 (by decide), ul (ci := 7) h5 (by decide) i1 (by omega), tq, em, uk (ci := 5) h7, cls_truthOf hPl (by omega), yC_some]
      by_cases z : bt (T.2 l 1 m) t = true
      · rw [if_pos ((lg_cmp_eq _ _).mpr ((bit_is _ ht).mpr z))]
        exact ⟨i, rfl, Nat.le_refl i, by omega, by rw [tm]; exact (bm t ht).mp z, fun e' a b => by omega⟩
      · rw [if_neg (fun y => z ((bit_is _ ht).mp ((lg_cmp_eq _ _).mp y))), hB_eq, nI_1]
        have hne : ¬ nv r V (nw + na) nt t ν (tN (S0.1 q 1 i)) = 1 := by rw [tm]; exact fun y => z ((bm t ht).mpr y)
        obtain ⟨e2, y1, y2, y3, y4, y5⟩ := ih (i + 1) fu (by omega) (by omega) ⟨e', by
          by_cases w : e' = i
          · subst w; exact absurd hv hne
          · omega, b, hv⟩
        refine ⟨e2, y1, by omega, y3, y4, fun e3 a b => ?_⟩
        by_cases w : e3 = i
        · rw [w]; exact hne
        · exact y5 e3 (by omega) b
  obtain ⟨e, he, hv⟩ := hex
  obtain ⟨e2, y1, y2, y3, y4, y5⟩ := loop Kc 0 n (by omega) (by omega) ⟨e, Nat.zero_le e, he, hv⟩
  rw [nI_0] at y1
  exact ⟨e2, y1, y3, y4, fun e' a => y5 e' (Nat.zero_le e') a⟩
/-- a new best is put down -/
theorem cls_look_100 (h : SX O x c u p f w q s l r E A nw na nt I Kc V S0 lam) (hT : TF s l S0 T) (hv : ∀ i, i < nw + na → T.1 s 5 i = nI (ν i)) {t e : Nat} (ht : t < 64) (he : e < 16) :
    ∃ T', G_XSearch_look_100 O n s (nI t) (nI e) T = some ((), T') ∧ TF s l S0 T' ∧ T'.1 s 5 = T.1 s 5 ∧ T'.2 = T.2 ∧ BR s nw T' (some (t, ν, e)) := by
  have hO := h.hO
  have l7 := h.hR.2.2.2.1
  obtain ⟨⟨h1, h2, h3, h4, h5, h6, h7⟩, _, _, _, _, _, ⟨s3, s4, s5, s6, s7, s8, s9⟩, _⟩ := hO
  unfold G_XSearch_look_100 G_XSearch_look_129
  rw [uP (ci := 8) h6 (by decide), uP (ci := 8) h6 (by decide), uA (ci := 8) h6 (by decide), uA (ci := 8) h6 (by decide), uI (ci := 8) h6 (by decide), up3_f (by decide), up3_f (by decide), hT.2.1 12 (by decide) (by decide) (by decide) (by decide), h.c12]
  unfold hcp
  have c0 : (0 : Int32).toNatClampNeg = 0 := rfl
  have cw : (nI nw).toNatClampNeg = nw := nI_clamp (by omega)
  rw [if_pos ⟨u_ok h6 (by decide), u_ok h6 (by decide), by decide, by decide, nI_pos (by omega), by rw [c0, cw]; show 0 + nw ≤ oN O s 5; rw [s5]; omega, by rw [c0, cw]; show 0 + nw ≤ oN O s 9; rw [s9]; omega⟩, c0, cw]
  refine ⟨_, rfl, ⟨fun o ho => ?_, fun j j5 j9 j13 j14 => ?_, fun o ho => hT.2.2 o ho⟩, ?_, rfl, Or.inr ⟨t, ν, e, rfl, ht, he, ?_, ?_, fun i hi => ?_⟩⟩
  · rw [← hT.1 o ho]
    funext j i
    show upA (up3 (up3 T.1 s 13 0 (nI t)) s 14 0 (nI e)) s 9 _ o j i = T.1 o j i
    rw [upA_ne (fun z => ho z.1), up3_ne (fun z => ho z.1), up3_ne (fun z => ho z.1)]
  · rw [← hT.2.1 j j5 j9 j13 j14]
    funext i
    show upA (up3 (up3 T.1 s 13 0 (nI t)) s 14 0 (nI e)) s 9 _ s j i = T.1 s j i
    rw [upA_ne (fun z => j9 z.2), up3_ne (fun z => j14 z.2), up3_ne (fun z => j13 z.2)]
  · funext i
    show upA (up3 (up3 T.1 s 13 0 (nI t)) s 14 0 (nI e)) s 9 _ s 5 i = T.1 s 5 i
    rw [upA_ne (fun z => absurd z.2 (by decide)), up3_ne (fun z => absurd z.2 (by decide)), up3_ne (fun z => absurd z.2 (by decide))]
  · show upA (up3 (up3 T.1 s 13 0 (nI t)) s 14 0 (nI e)) s 9 _ s 13 0 = nI t
    rw [upA_ne (fun z => absurd z.2 (by decide)), up3_ne (fun z => absurd z.2 (by decide))]
    exact if_pos ⟨rfl, rfl, rfl⟩
  · show upA (up3 (up3 T.1 s 13 0 (nI t)) s 14 0 (nI e)) s 9 _ s 14 0 = nI e
    rw [upA_ne (fun z => absurd z.2 (by decide))]
    exact if_pos ⟨rfl, rfl, rfl⟩
  · show upA (up3 (up3 T.1 s 13 0 (nI t)) s 14 0 (nI e)) s 9 _ s 9 i = nI (ν i)
    rw [show ∀ g : Nat → Int32, upA (up3 (up3 T.1 s 13 0 (nI t)) s 14 0 (nI e)) s 9 g s 9 i = g i from fun g => if_pos ⟨rfl, rfl⟩, pk_cpy_in (Nat.zero_le i) (by omega), Nat.zero_add, Nat.sub_zero]
    show up3 (up3 T.1 s 13 0 (nI t)) s 14 0 (nI e) s 5 i = nI (ν i)
    rw [up3_ne (fun z => absurd z.2 (by decide)), up3_ne (fun z => absurd z.2 (by decide))]
    exact hv i (by omega)
end LOOK
