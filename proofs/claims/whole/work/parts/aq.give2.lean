section GIVE2
variable {O : qOb9} {x c u p f w q s l n r E A nw na nt I Kc : Nat} {V S0 T : qS} {lam : Nat → Nat}
theorem cls_give (h : SX O x c u p f w q s l r E A nw na nt I Kc V S0 lam) (hn : 7000 ≤ n) :
    ∀ (k g fu : Nat) (ν : Nat → Nat) (B : Bt) (st : Int64) (T : qS) (Vis : (Nat → Nat) → Prop), g + k = nw + na → k < fu → TF s l S0 T → (∀ i, i < g → T.1 s 5 i = nI (ν i)) → PR r A (nw + na) nt l V lam T g ν → rgP tt1 ν g → BR s nw T B → (∀ t, t < 64 → bt st t = true → okS q S0 r V nw (nw + na) nt I lam t ν g) → BIv nw nt (FC q S0 r V A (nw + na) nt I Kc) B Vis → (∀ v, Vis v → lexLt g v ν) →
      (∀ t v e, t < 2 ^ nt → bt st t = false → sub (nw + na) g ν v → FC q S0 r V A (nw + na) nt I Kc t v e → leB nw B t v e) → (∀ t t0 w0 e0, t < 64 → bt st t = true → B = some (t0, w0, e0) → t < t0 ∨ ∀ i, i < g → i < nw → w0 i = ν i) →
      ∃ T' B', G_XSearch_giveNumbers O n fu s (nI g) (nI (mxT ν g)) st T = some ((), T') ∧ TF s l S0 T' ∧ (∀ i, i < g → T'.1 s 5 i = nI (ν i)) ∧ PR r A (nw + na) nt l V lam T' g ν ∧ BR s nw T' B' ∧ BIv nw nt (FC q S0 r V A (nw + na) nt I Kc) B' (fun v => Vis v ∨ sub (nw + na) g ν v) ∧ (B' = B ∨ ∃ t0 w0 e0, B' = some (t0, w0, e0) ∧ ∀ i, i < g → i < nw → w0 i = ν i) := by
  have hA := h.hA
  have hO := h.hO
  have l7 := h.hR.2.2.2.1
  have nt6 := h.hR.2.2.2.2.1
  obtain ⟨⟨h1, h2, h3, h4, h5, h6, h7⟩, ⟨o1, o2, o3, o4, o5, o6, o7, o8, o9, o10, o11⟩, _, _, _, _, ⟨s3, s4, s5, s6, s7, s8, s9⟩, _⟩ := hO
  intro k
  induction k with
  | zero =>
    intro g fu ν B st T Vis eg hf hT hv hP hrg hB hst hV hlex hp hd
    obtain ⟨fu, rfl⟩ : ∃ q, fu = q + 1 := ⟨fu - 1, by omega⟩
    have e0 : g = nw + na := by omega
    subst e0
    obtain ⟨T', B', y1, y2, y3, y4, y5, y6, y7⟩ := cls_look (n := n) h hn hT hP hv hB hst hV (fun t e ht hb hf => hp t ν e ht hb ⟨hrg, fun _ _ => rfl⟩ hf) (fun t t0 w0 e0 ht hb eb => (hd t t0 w0 e0 ht hb eb).elim Or.inl (fun z => Or.inr (fun i hi => z i (by omega) hi)))
    refine ⟨T', B', ?_, y2, fun i hi => by rw [y3]; exact hv i hi, fun m hm hd hl => PRm_eq2 y4 (hP m hm hd hl), y5, BIv_iff y6 (fun v => ⟨?_, ?_⟩), ?_⟩
    · rw [G_XSearch_giveNumbers, G_XSearch_giveNumbers_b, uI (ci := 8) h6 (by decide), hT.2.1 11 (by decide) (by decide) (by decide) (by decide), h.c11, if_neg (fun y => absurd ((nI_ltI (by omega) (by omega)).mp y) (Nat.lt_irrefl _)), uk (ci := 8) h6, y1, yV_some]
    · rintro (z | z)
      · exact Or.inl z
      · exact Or.inr ⟨rg_congr hrg (fun i hi => (z i hi).symm), z⟩
    · rintro (z | z)
      · exact Or.inl z
      · exact Or.inr z.2
    · rcases y7 with z | ⟨t0, e0, z⟩
      · exact Or.inl z
      · exact Or.inr ⟨t0, ν, e0, z, fun _ _ _ => rfl⟩
  | succ k ih =>
    intro g fu ν B0 st T0 Vis eg hf hT0 hv0 hP0 hrg hB0 hst hV0 hlex hp0 hd0
    obtain ⟨fu, rfl⟩ : ∃ q, fu = q + 1 := ⟨fu - 1, by omega⟩
    have hg : g < nw + na := by omega
    have mxg := mxT_le hrg g (Nat.le_refl g)
    have νle : ∀ i, i < g → ν i ≤ 6 := fun i hi => by have := rg_le hrg hi; omega
    obtain ⟨m, hm, em, dm, _, _⟩ := h.hR.2.2.2.2.2.1 g hg
    have g4 : g < oN O s 4 := by rw [s4]; omega
    have g5 : g < oN O s 5 := by rw [s5]; omega
    -- the loop over the values of word g
    have loop : ∀ (d a fu2 : Nat) (T : qS) (B : Bt), a + d = mxT ν g + 1 → d < fu2 → TF s l S0 T → (∀ i, i < g → T.1 s 5 i = nI (ν i)) → PR r A (nw + na) nt l V lam T g ν → BR s nw T B → BIv nw nt (FC q S0 r V A (nw + na) nt I Kc) B (fun v => Vis v ∨ (sub (nw + na) g ν v ∧ v g < a)) → (B = B0 ∨ ∃ t0 w0 e0, B = some (t0, w0, e0) ∧ ∀ i, i < g → i < nw → w0 i = ν i) →
        ∃ T' B', G_XSearch_giveNumbers_17 O n (G_XSearch_giveNumbers O n fu) fu2 s (nI g) (nI (mxT ν g)) st (nI a) T = some ((), T') ∧ TF s l S0 T' ∧ (∀ i, i < g → T'.1 s 5 i = nI (ν i)) ∧ PR r A (nw + na) nt l V lam T' g ν ∧ BR s nw T' B' ∧ BIv nw nt (FC q S0 r V A (nw + na) nt I Kc) B' (fun v => Vis v ∨ sub (nw + na) g ν v) ∧ (B' = B0 ∨ ∃ t0 w0 e0, B' = some (t0, w0, e0) ∧ ∀ i, i < g → i < nw → w0 i = ν i) := by
      intro d
      induction d with
      | zero =>
        intro a fu2 T B ea hf2 hT hv hP hB hV hrel
        obtain ⟨fu2, rfl⟩ : ∃ q, fu2 = q + 1 := ⟨fu2 - 1, by omega⟩
        rw [G_XSearch_giveNumbers_17, if_pos ((nI_ltI (by omega) (by omega)).mpr (by omega))]
        refine ⟨T, B, rfl, hT, hv, hP, hB, BIv_iff hV (fun v => ⟨fun z => z.elim Or.inl (fun y => Or.inr y.1), fun z => z.elim Or.inl (fun y => Or.inr ⟨y, ?_⟩)⟩), hrel⟩
        have := y.1 g hg rfl
        rw [mxP_congr (v := ν) (fun j hj _ => y.2 j hj)] at this
        have : v g ≤ mxT ν g := this
        omega
      | succ d ihd =>
        intro a fu2 T B ea hf2 hT hv hP hB hV hrel
        obtain ⟨fu2, rfl⟩ : ∃ q, fu2 = q + 1 := ⟨fu2 - 1, by omega⟩
        have ha : a ≤ mxT ν g := by omega
        have hpu : ∀ i, i < g → ν i = puT ν g a i := fun i hi => (puT_lo hi).symm
        -- the bound of use
        obtain ⟨t0, e0, b13, b14, ht0, he0, hBn⟩ : ∃ t0 e0, T.1 s 13 0 = nI t0 ∧ T.1 s 14 0 = nI e0 ∧ t0 ≤ 64 ∧ e0 ≤ 16 ∧ ((B = none ∧ t0 = 64 ∧ e0 = 0) ∨ ∃ w0, B = some (t0, w0, e0)) := by
          rcases hB with ⟨z1, z2, z3⟩ | ⟨t0, w0, e0, z1, z2, z3, z4, z5, _⟩
          · exact ⟨64, 0, z2, z3, by omega, by omega, Or.inl ⟨z1, rfl, rfl⟩⟩
          · exact ⟨t0, e0, z4, z5, by omega, by omega, Or.inr ⟨w0, z1⟩⟩
        have eu := cls_use (n := n) (g := g) h hT (by omega) b13 b14 ht0 he0
        generalize hb : (if nw ≤ g ∧ 0 < e0 then t0 + 1 else t0) = b at eu
        have hP' : PR r A (nw + na) nt l V lam T g (puT ν g a) := PR_congr h hP hpu
        obtain ⟨y1, ey1, hy1⟩ := cls_withFun (n := n) (ν := puT ν g a) h hn hT hg hP' (fun i hi => by rw [hv i hi, hpu i hi]) (fun i hi => by
          by_cases z : i = g
          · rw [z, puT_g]; omega
          · rw [puT_lo (by omega)]; have := νle i (by omega); omega) (st := st &&& below b)
        rw [puT_g] at ey1
        have hy1' : ∀ t, t < 64 → (bt y1 t = true ↔ (bt st t = true ∧ t < b) ∧ ∀ j, nw ≤ j → j < g → okPair (LT r V (nw + na) nt t (puT ν g a)) (wlc r V g) (wlc r V j)) := fun t ht => by
          rw [hy1 t ht, bt_and, Bool.and_eq_true, bt_bel ht, decide_eq_true_iff]
        -- what is known of the best
        have hpB : ∀ t v e, t < 2 ^ nt → bt st t = false → sub (nw + na) g ν v → FC q S0 r V A (nw + na) nt I Kc t v e → leB nw B t v e := fun t v e ht hbt hs hfc => leB_mono hV0 hV (fun v z => Or.inl z) (hp0 t v e ht hbt hs hfc)
        have hdB : ∀ t t0 w0 e0, t < 64 → bt st t = true → B = some (t0, w0, e0) → t < t0 ∨ ∀ i, i < g → i < nw → w0 i = ν i := fun t t1 w1 e1 ht hbt eb => by
          rcases hrel with z | ⟨t2, w2, e2, z1, z2⟩
          · rw [z] at eb; exact hd0 t t1 w1 e1 ht hbt eb
          · rw [z1] at eb
            injection eb with eb
            injection eb with e3 e4
            injection e4 with e5 e6
            rw [← e5]; exact Or.inr z2
        have lexB : ∀ v, (Vis v ∨ (sub (nw + na) g ν v ∧ v g < a)) → lexLt (g + 1) v (puT ν g a) := by
          rintro v (z | ⟨z1, z2⟩)
          · obtain ⟨i, hi, i1, i2⟩ := hlex v z
            exact ⟨i, by omega, fun j hj => by rw [i1 j hj, hpu j (by omega)], by rw [puT_lo hi]; exact i2⟩
          · exact ⟨g, by omega, fun j hj => by rw [z1.2 j hj, hpu j hj], by rw [puT_g]; exact z2⟩
        have subs : ∀ v, sub (nw + na) (g + 1) (puT ν g a) v ↔ sub (nw + na) g ν v ∧ v g = a := fun v => by
          constructor
          · rintro ⟨z1, z2⟩
            exact ⟨⟨z1, fun i hi => by rw [z2 i (by omega), puT_lo hi]⟩, by rw [z2 g (by omega), puT_g]⟩
          · rintro ⟨⟨z1, z2⟩, z3⟩
            refine ⟨z1, fun i hi => ?_⟩
            by_cases z : i = g
            · rw [z, puT_g]; exact z3
            · rw [puT_lo (by omega)]; exact z2 i (by omega)
        have vis : ∀ v, ((Vis v ∨ (sub (nw + na) g ν v ∧ v g < a)) ∨ sub (nw + na) (g + 1) (puT ν g a) v) ↔ (Vis v ∨ (sub (nw + na) g ν v ∧ v g < a + 1)) := fun v => by
          rw [subs v]
          constructor
          · rintro ((z | ⟨z1, z2⟩) | ⟨z1, z2⟩)
            · exact Or.inl z
            · exact Or.inr ⟨z1, by omega⟩
            · exact Or.inr ⟨z1, by omega⟩
          · rintro (z | ⟨z1, z2⟩)
            · exact Or.inl (Or.inl z)
            · by_cases z : v g = a
              · exact Or.inr ⟨z1, z⟩
              · exact Or.inl (Or.inr ⟨z1, by omega⟩)
        -- states out of use
        have prune : ∀ t v e, t < 2 ^ nt → b ≤ t → sub (nw + na) (g + 1) (puT ν g a) v → leB nw B t v e := by
          intro t v e ht hbt hs
          have t64 := pow_nt nt6 ht
          rcases hBn with ⟨z1, z2, z3⟩ | ⟨w0, eb⟩
          · exfalso
            rw [if_neg (by omega)] at hb
            omega
          · obtain ⟨_, v0, hv0, ev0, _⟩ := hV.1 t0 w0 e0 eb
            have lx := lex_eqr (lexB v0 hv0) (fun i hi => (hs.2 i hi).symm)
            obtain ⟨i, hi, i1, i2⟩ := lx
            refine ⟨t0, w0, e0, eb, ?_⟩
            by_cases zi : i < nw
            · have lw : lexLt nw w0 v := lex_eql ⟨i, zi, i1, i2⟩ ev0
              have : t0 ≤ b := by rw [← hb]; by_cases q : nw ≤ g ∧ 0 < e0; rw [if_pos q]; omega; rw [if_neg q]; omega
              by_cases y : t0 < t
              · exact Or.inl y
              · exact Or.inr ⟨by omega, Or.inl lw⟩
            · have ew : ∀ j, j < nw → w0 j = v j := fun j hj => (ev0 j hj).symm.trans (i1 j (by omega))
              by_cases y : 0 < e0
              · rw [if_pos ⟨by omega, y⟩] at hb
                exact Or.inl (by omega)
              · rw [if_neg (by omega)] at hb
                by_cases y2 : t0 < t
                · exact Or.inl y2
                · exact Or.inr ⟨by omega, Or.inr ⟨ew, by omega⟩⟩
        have cov1 : ∀ t v e, t < 2 ^ nt → bt y1 t = false → sub (nw + na) (g + 1) (puT ν g a) v → FC q S0 r V A (nw + na) nt I Kc t v e → leB nw B t v e := by
          intro t v e ht hbt hs hfc
          have t64 := pow_nt nt6 ht
          cases y : bt st t with
          | false => exact hpB t v e ht y ((subs v).mp hs).1 hfc
          | true =>
            by_cases z : b ≤ t
            · exact prune t v e ht z hs
            · exfalso
              have : bt y1 t = true := (hy1' t t64).mpr ⟨⟨y, by omega⟩, fun j hj hjg => okPair_congr h hj hjg hg (fun i hi => hs.2 i (by omega)) ((Fun_pairs h).mp hfc.1 g j hj hjg hg)⟩
              rw [this] at hbt
              exact absurd hbt (by decide)
        -- what comes next
        have next : ∀ (T2 : qS) (B2 : Bt), TF s l S0 T2 → (∀ i, i < g → T2.1 s 5 i = nI (ν i)) → PR r A (nw + na) nt l V lam T2 g ν → BR s nw T2 B2 → BIv nw nt (FC q S0 r V A (nw + na) nt I Kc) B2 (fun v => Vis v ∨ (sub (nw + na) g ν v ∧ v g < a + 1)) → (B2 = B ∨ ∃ t0 w0 e0, B2 = some (t0, w0, e0) ∧ ∀ i, i < g → i < nw → w0 i = ν i) →
            ∃ T' B', G_XSearch_giveNumbers_111 O n (G_XSearch_giveNumbers O n fu) (G_XSearch_giveNumbers_17 O n (G_XSearch_giveNumbers O n fu) fu2) s (nI g) (nI (mxT ν g)) st (nI a) T2 = some ((), T') ∧ TF s l S0 T' ∧ (∀ i, i < g → T'.1 s 5 i = nI (ν i)) ∧ PR r A (nw + na) nt l V lam T' g ν ∧ BR s nw T' B' ∧ BIv nw nt (FC q S0 r V A (nw + na) nt I Kc) B' (fun v => Vis v ∨ sub (nw + na) g ν v) ∧ (B' = B0 ∨ ∃ t0 w0 e0, B' = some (t0, w0, e0) ∧ ∀ i, i < g → i < nw → w0 i = ν i) := by
          intro T2 B2 a1 a2 a3 a4 a5 a6
          unfold G_XSearch_giveNumbers_111
          rw [hB_eq, nI_1]
          refine ihd (a + 1) fu2 T2 B2 (by omega) (by omega) a1 a2 a3 a4 a5 ?_
          rcases a6 with z | z
          · rw [z]; exact hrel
          · exact Or.inr z
        rw [G_XSearch_giveNumbers_17, if_neg (fun y => absurd ((nI_ltI (by omega) (by omega)).mp y) (by omega)), uk (ci := 8) h6, eu, yC_some, uk (ci := 8) h6, ey1, yC_some]
        by_cases z1 : y1 = 0
        · rw [if_pos ((lg_cmp_eq _ _).mpr z1)]
          unfold G_XSearch_giveNumbers_87
          rw [if_pos ((lg_cmp_eq _ _).mpr z1)]
          refine next T B hT hv hP hB (BIv_iff (BIv_more hV (fun t v e ht hs hfc => cov1 t v e ht (by rw [z1]; exact bt_0 t) hs hfc)) vis) (Or.inl rfl)
        · rw [if_neg (fun y => z1 ((lg_cmp_eq _ _).mp y)), uA (ci := 8) h6 (by decide), uw (ci := 8) h6 (by decide) g5 (by omega), uO (ci := 8) h6 (by decide), o10, uA (ci := 8) h6 (by decide), ul (ci := 8) h6 (by decide) g4 (by omega), up3_f (by decide), hT.2.1 4 (by decide) (by decide) (by decide) (by decide), h.lw g hg, em, uk (ci := 5) h7]
          obtain ⟨T2, T3, c1, c2, c3, c4, c5, c6⟩ := cls_number (n := n) (ν := puT ν g a) h hn hT hg hP' (fun i hi => by rw [hv i hi, hpu i hi]) (by rw [puT_g]; omega) hm em
          rw [puT_g] at c1 c4
          rw [c1, yV_some, uk (ci := 8) h6, nI_1, c2, yV_some, uk (ci := 8) h6]
          obtain ⟨y2, ey2, hy2⟩ := cls_withInv (n := n) (st := y1) h hn (show g + 1 < 8 by omega) c3 c6
          rw [ey2, yC_some]
          have b3' : BR s nw T3 B := by
            have e13 : T3.1 s 13 = T.1 s 13 := by rw [c4]; exact up3_f (by decide)
            have e14 : T3.1 s 14 = T.1 s 14 := by rw [c4]; exact up3_f (by decide)
            have e9 : T3.1 s 9 = T.1 s 9 := by rw [c4]; exact up3_f (by decide)
            unfold BR at hB ⊢
            rw [e13, e14, e9]; exact hB
          have v3 : ∀ i, i < g → T3.1 s 5 i = nI (ν i) := fun i hi => by rw [c5 i (by omega), puT_lo hi]
          have p3 : PR r A (nw + na) nt l V lam T3 g ν := PR_congr h (PR_less c6 (Nat.le_succ g)) (fun i hi => puT_lo hi)
          have cov2 : ∀ t v e, t < 2 ^ nt → bt y2 t = false → sub (nw + na) (g + 1) (puT ν g a) v → FC q S0 r V A (nw + na) nt I Kc t v e → leB nw B t v e := by
            intro t v e ht hbt hs hfc
            have t64 := pow_nt nt6 ht
            cases y : bt y1 t with
            | false => exact cov1 t v e ht y hs hfc
            | true =>
              exfalso
              have : bt y2 t = true := (hy2 t t64).mpr ⟨y, fun k' hk' hl => by
                obtain ⟨m', hm', em', dm', _⟩ := h.inv k' hk'
                have tm' : tN (S0.1 q 0 k') = m' := by rw [em']; exact nI_clamp (by omega)
                have := hfc.2.1 k' hk'
                rw [tm'] at this hl ⊢
                rw [← this]
                exact nv_congr h m' hm' dm' (fun i hi => (hs.2 i (by omega)).symm)⟩
              rw [this] at hbt
              exact absurd hbt (by decide)
          unfold G_XSearch_giveNumbers_87
          by_cases z2 : y2 = 0
          · rw [if_pos ((lg_cmp_eq _ _).mpr z2)]
            exact next T3 B c3 v3 p3 b3' (BIv_iff (BIv_more hV (fun t v e ht hs hfc => cov2 t v e ht (by rw [z2]; exact bt_0 t) hs hfc)) vis) (Or.inl rfl)
          · rw [if_neg (fun y => z2 ((lg_cmp_eq _ _).mp y)), hB_eq, uk (ci := 8) h6]
            have emx : (if nI (mxT ν g) < nI a + 1 then nI a + 1 else nI (mxT ν g)) = nI (mxT (puT ν g a) (g + 1)) := by
              rw [mxT_s, puT_g, show mxT (puT ν g a) g = mxT ν g from mxP_congr (fun j hj _ => puT_lo hj), nI_1]
              by_cases z : mxT ν g < a + 1
              · rw [if_pos ((nI_ltI (by omega) (by omega)).mpr z), Nat.max_eq_right (by omega)]
              · rw [if_neg (fun y => z ((nI_ltI (by omega) (by omega)).mp y)), Nat.max_eq_left (by omega)]
            obtain ⟨T4, B4, f1, f2, f3, f4, f5, f6, f7⟩ := ih (g + 1) fu (puT ν g a) B y2 T3 (fun v => Vis v ∨ (sub (nw + na) g ν v ∧ v g < a)) (by omega) (by omega) c3 c5 c6 (fun i hi hpp => by
                by_cases z : i = g
                · rw [z, puT_g]
                  show a ≤ mxT (puT ν g a) g
                  rw [show mxT (puT ν g a) g = mxT ν g from mxP_congr (fun j hj _ => puT_lo hj)]
                  exact ha
                · rw [puT_lo (by omega), mxP_congr (v := ν) (fun j hj _ => puT_lo (by omega))]
                  exact hrg i (by omega) hpp) b3' (fun t ht hbt => by
                obtain ⟨w1, w2⟩ := (hy2 t ht).mp hbt
                obtain ⟨⟨w3, w4⟩, w5⟩ := (hy1' t ht).mp w1
                obtain ⟨k1, k2, k3⟩ := hst t ht w3
                refine ⟨k1, fun k' hk' hl => ?_, fun i j hj hji hi => ?_⟩
                · by_cases z : lam (tN (S0.1 q 0 k')) = g + 1
                  · exact w2 k' hk' z
                  · have := k2 k' hk' (by omega)
                    obtain ⟨m', hm', em', dm', _⟩ := h.inv k' hk'
                    have tm' : tN (S0.1 q 0 k') = m' := by rw [em']; exact nI_clamp (by omega)
                    rw [tm'] at this hl z ⊢
                    rw [← this]
                    exact nv_congr h m' hm' dm' (fun i hi => puT_lo (by omega))
                · by_cases z : i = g
                  · subst z; exact w5 j hj hji
                  · exact okPair_congr h hj hji (by omega) (fun i' hi' => hpu i' (by omega)) (k3 i j hj hji (by omega))) hV lexB cov2 (fun t t1 w1 e1 ht hbt eb => by
                obtain ⟨q1', q2'⟩ := (hy2 t ht).mp hbt
                obtain ⟨⟨q3', q4'⟩, _⟩ := (hy1' t ht).mp q1'
                rcases hBn with ⟨z1, _⟩ | ⟨w0, eb0⟩
                · rw [z1] at eb; cases eb
                · rw [eb0] at eb
                  have eb' := eb
                  injection eb with eb
                  injection eb with e3 e4
                  injection e4 with e5 e6
                  by_cases z : g < nw
                  · rw [if_neg (by omega)] at hb
                    left; omega
                  · rcases hdB t t0 w0 e0 ht q3' eb0 with y | y
                    · left; omega
                    · right
                      intro i hi hin
                      rw [← e5, y i (by omega) hin, hpu i (by omega)])
            rw [emx, show nI g + 1 = nI (g + 1) from nI_1 .., f1, yV_some]
            refine next T4 B4 f2 (fun i hi => by rw [f3 i (by omega), puT_lo hi]) (PR_congr h (PR_less f4 (Nat.le_succ g)) (fun i hi => puT_lo hi)) f5 (BIv_iff f6 vis) ?_
            rcases f7 with z | ⟨t1, w1, e1, z3, z4⟩
            · exact Or.inl z
            · exact Or.inr ⟨t1, w1, e1, z3, fun i hi hin => by rw [z4 i (by omega) hin, puT_lo hi]⟩
    obtain ⟨T', B', y1, y2⟩ := loop (mxT ν g + 1) 0 n T0 B0 (by omega) (by omega) hT0 hv0 hP0 hB0 (BIv_iff hV0 (fun v => ⟨Or.inl, fun z => z.elim id (fun y => absurd y.2 (Nat.not_lt_zero _))⟩)) (Or.inl rfl)
    rw [nI_0] at y1
    refine ⟨T', B', ?_, y2⟩
    rw [G_XSearch_giveNumbers, G_XSearch_giveNumbers_b, uI (ci := 8) h6 (by decide), hT0.2.1 11 (by decide) (by decide) (by decide) (by decide), h.c11, if_pos ((nI_ltI (by omega) (by omega)).mpr hg)]
    exact y1
end GIVE2
