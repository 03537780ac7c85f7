section CBEGIN2
variable {O : qOb9} {x c u p f w q s l n E N I : Nat} {S : qS} {eS : Nat → Bool}
/-- an element's code in the face -/
theorem CoI_el (hI : CoI O c f E N I S eS) {m e : Nat} (hm : m < N) (hk : S.1 f 0 m = 3 ∨ S.1 f 0 m = 4) (ha : S.1 f 1 m = nI e) (he : e < E) : st0C eS e = cCd S f m := by
  obtain ⟨cF', hE, e6, i1, i2, i3, i4, i5, i6, i7⟩ := hI
  have hN31 := (CS_big cF').1
  obtain ⟨a, ha', ea, em⟩ := i2 m hm hk
  have := (nI_eq (by omega) (by omega)).mp (ha.symm.trans ea)
  subst this
  obtain ⟨m', hm', em', _, _, ws⟩ := i1 e he
  have := (nI_eq (by omega) (by omega)).mp (em.symm.trans em')
  subst this
  unfold st0C
  rcases hk with k | k
  · obtain ⟨_, a, ha2, _, ea2, ec⟩ := row_3 cF'.2.2.2.1.2.1 hN31 hE hm k
    have := (nI_eq (by omega) (by omega)).mp (ha.symm.trans ea2)
    subst this
    rw [ws.mp k, if_pos rfl]; exact ec.symm
  · obtain ⟨_, a, ha2, _, ea2, ec⟩ := row_4 cF'.2.2.2.1.2.1 hN31 hE hm k
    have := (nI_eq (by omega) (by omega)).mp (ha.symm.trans ea2)
    subst this
    cases z : eS e with
    | false => rw [if_neg (by decide)]; exact ec.symm
    | true => have := ws.mpr z; rw [k] at this; exact absurd this (by decide)
/-- the question's invariants -/
def QI (S : qS) (q w I M : Nat) (iv : Nat → Nat) : Prop := S.1 q 3 0 = nI I ∧ ∀ k, k < I → ∃ v, v < M ∧ S.1 q 0 k = nI v ∧ cCd S w v = iv k ∧ cWd S w v = false
theorem cls_addInv (h5 : oC O q = 8) (l0 : oN O q 0 = 8) {k : Nat} (hk : k < 8) {T : qS} (h3 : T.1 q 3 0 = nI k) {v : Int32} : ∃ T', G_XQuestion_addInvariant O n q v T = some ((), T') ∧ rOnly q T T' ∧ T'.1 q 3 0 = nI (k + 1) ∧ T'.1 q 0 k = v ∧ (∀ i, i ≠ k → T'.1 q 0 i = T.1 q 0 i) ∧ ∀ j, j ≠ 0 → j ≠ 3 → T'.1 q j = T.1 q j := by
  have k0 : k < oN O q 0 := by rw [l0]; exact hk
  unfold G_XQuestion_addInvariant G_XQuestion_addInvariant_32
  rw [uI (ci := 7) h5 (by decide), h3, uA (ci := 7) h5 (by decide), un (ci := 7) h5 (by decide), l0, if_neg (nI_ge hk (by omega)), uA (ci := 7) h5 (by decide), uI (ci := 7) h5 (by decide), h3, uw (ci := 7) h5 (by decide) k0 (by omega), uI (ci := 7) h5 (by decide), up3_f (by decide), h3, uP (ci := 7) h5 (by decide), nI_1]
  refine ⟨_, rfl, rOnly.up.trans rOnly.up, up3_v, ?_, fun i hi => ?_, fun j h0 h3 => ?_⟩
  · rw [up3_f (by decide), up3_v]
  · rw [up3_f (by decide), up3_o hi]
  · rw [up3_f h3, up3_f h0]
theorem cls_begin (hO : ClO O x c u p f w q s l) (hn : 7000 ≤ n) (hI : CoI O c f E N I S eS) :
    ∃ S' M', G_XProver_begin O n p c S = some ((), S') ∧ onl (fun o => o = w ∨ o = p ∨ o = q) S S' ∧ CS O w 5732 2048 S' E M' ∧ 3 + E ≤ M' ∧ M' ≤ E + N ∧ (∀ m, 3 + E ≤ m → m < M' → ¬ S'.1 w 0 m ≤ 4) ∧ ElW w S' E eS ∧ StC S' w p 5 E M' (st0C eS) eS ∧ StC S' w p 6 E M' (st0C eS) eS ∧ QI S' q w I M' (fun k => cCd S f (tN (S.1 c 4 k))) ∧ S'.1 q 4 0 = 0 ∧ ∀ j, j ≠ 4 → j ≠ 5 → j ≠ 6 → S'.1 p j = S.1 p j := by
  have hO' := hO
  obtain ⟨⟨h1, h2, h3, h4, h5, h6, h7⟩, ⟨o1, o2, o3, o4, o5, o6, o7, o8, o9, o10, o11⟩, ⟨n1, n2, n3⟩, ⟨l1, l2, l3, l4, l5, l6⟩, ⟨p3, p4, p5, p6⟩, ⟨ql0, ql1, ql2⟩, _⟩ := hO
  have NE := fun _ : Unit => ClO_ne hO'
  have hI' := hI
  obtain ⟨cF', hE, e6, i1, i2, i3, i4, i5, i6, i7⟩ := hI
  have hN300 := cF'.2.2.1
  have hN31 := (CS_big cF').1
  have hN3 := (CS_big cF').2
  obtain ⟨S1, e1, c1, r1, k1⟩ := cls_reset (O := O) (n := n) (S := S) (E := E) hn n2 (by omega)
  -- the question is emptied
  have e2 : G_XQuestion_begin O n q S1 = some ((), (up3 (up3 S1.1 q 3 0 0, S1.2).1 q 4 0 0, (up3 S1.1 q 3 0 0, S1.2).2)) := by
    unfold G_XQuestion_begin
    rw [uP (ci := 7) h5 (by decide), uP (ci := 7) h5 (by decide)]
  have w2 : ((up3 (up3 S1.1 q 3 0 0, S1.2).1 q 4 0 0, (up3 S1.1 q 3 0 0, S1.2).2) : qS).1 w = S1.1 w := by rw [up3_q (NE ()).2.2.1.1, up3_q (NE ()).2.2.1.1]
  have q23 : ((up3 (up3 S1.1 q 3 0 0, S1.2).1 q 4 0 0, (up3 S1.1 q 3 0 0, S1.2).2) : qS).1 q 3 0 = nI 0 := by rw [up3_f (by decide), up3_v]; rfl
  have q24 : ((up3 (up3 S1.1 q 3 0 0, S1.2).1 q 4 0 0, (up3 S1.1 q 3 0 0, S1.2).2) : qS).1 q 4 0 = 0 := up3_v
  have p2' : ((up3 (up3 S1.1 q 3 0 0, S1.2).1 q 4 0 0, (up3 S1.1 q 3 0 0, S1.2).2) : qS).1 p = S.1 p := by rw [up3_q (NE ()).2.1.2.2.1, up3_q (NE ()).2.1.2.2.1, r1.2 p (NE ()).2.1.1]
  have on2 : onl (fun o => o = w ∨ o = p ∨ o = q) S (up3 (up3 S1.1 q 3 0 0, S1.2).1 q 4 0 0, (up3 S1.1 q 3 0 0, S1.2).2) := (onl.of r1 (Or.inl rfl)).trans ((onl.up (Or.inr (Or.inr rfl))).trans (onl.up (Or.inr (Or.inr rfl))))
  generalize ((up3 (up3 S1.1 q 3 0 0, S1.2).1 q 4 0 0, (up3 S1.1 q 3 0 0, S1.2).2) : qS) = S2 at e2 w2 q23 q24 on2 p2'
  obtain ⟨S3, fu', b1, b2, b3, b4, b5, b6, b7⟩ := cls_begin_16 (O := O) (n := n) hO' hn hI' E 0 n S2 (by omega) (by omega) on2 (by unfold CS at c1 ⊢; rw [w2]; exact c1) (fun a ha => absurd ha (Nat.not_lt_zero a)) (fun m hm => by rw [w2]; exact k1 m hm) (fun a ha => absurd ha (Nat.not_lt_zero a))
  have st5 : StC S3 w p 5 E (3 + E) (st0C eS) eS := fun e he => ⟨3 + e, by omega, (b6 e he).1, (ElW_cd hE b3 b4 he (by omega)).1, (ElW_cd hE b3 b4 he (by omega)).2⟩
  have st6 : StC S3 w p 6 E (3 + E) (st0C eS) eS := fun e he => ⟨3 + e, by omega, (b6 e he).2, (ElW_cd hE b3 b4 he (by omega)).1, (ElW_cd hE b3 b4 he (by omega)).2⟩
  have ec3 : S3.1 c = S.1 c := (b1 c (by rintro (z | z | z); exact (NE ()).1.2.1 z; exact (NE ()).1.1 z; exact (NE ()).1.2.2.2.1 z)).1
  have ef3 : S3.1 f = S.1 f := (b1 f (by rintro (z | z | z); exact (NE ()).2.2.1.2.2.2.2 z.symm; exact (NE ()).2.1.2.1 z.symm; exact (NE ()).2.2.2.1.1 z)).1
  have hI3 : CoI O c f E N I S3 eS := CoI_same hI' ec3 ef3
  obtain ⟨S4, S5, M', g1, g2, g3, g4, g5, g6, g7⟩ := cls_images (O := O) (n := n) hO' hn hI3 b3 (by omega) (Or.inl rfl) st5 (k := 2) (by omega)
  have ec5 : S5.1 c = S.1 c := by rw [(g3 c (by rintro (z | z); exact (NE ()).1.2.1 z; exact (NE ()).1.1 z)).1, ec3]
  have q5 : S5.1 q = S2.1 q := by rw [(g3 q (by rintro (z | z); exact (NE ()).2.2.1.1 z.symm; exact (NE ()).2.1.2.2.1 z.symm)).1, b2.1]
  have M31 := (CS_big g6.1).1
  -- images of the face's nodes are the face's codes
  have im : ∀ m, m < N → ∃ v, v < M' ∧ S5.1 p 4 m = nI v ∧ cCd S5 w v = cCd S f m ∧ cWd S5 w v = cWd S f m := fun m hm => by
    obtain ⟨v, v1, v2, v3, v4⟩ := g7 m hm
    refine ⟨v, v1, v2, ?_, ?_⟩
    · rw [v3]
      unfold fSb
      rw [ef3]
      exact sb_id cF'.2.2.2.1 hN31 hE (fun m' e hm' hk ha he => CoI_el hI' hm' hk ha he) m hm
    · rw [v4]; unfold cWd; rw [ef3]
  have loop : ∀ (d k fu : Nat) (T : qS), k + d = I → d < fu → rOnly q S5 T → T.1 q 3 0 = nI k → (∀ j, j ≠ 0 → j ≠ 3 → T.1 q j = S5.1 q j) → (∀ a, a < k → T.1 q 0 a = S5.1 p 4 (tN (S.1 c 4 a))) → ∃ T', G_XProver_begin_106 O n fu p c (nI k) T = some ((), T') ∧ rOnly q S5 T' ∧ T'.1 q 3 0 = nI I ∧ (∀ j, j ≠ 0 → j ≠ 3 → T'.1 q j = S5.1 q j) ∧ ∀ a, a < I → T'.1 q 0 a = S5.1 p 4 (tN (S.1 c 4 a)) := by
    intro d
    induction d with
    | zero =>
      intro k fu T ee hf hT h30 hj hv
      obtain ⟨fu, rfl⟩ : ∃ q, fu = q + 1 := ⟨fu - 1, by omega⟩
      have e0 : k = I := by omega
      subst e0
      have ec : T.1 c = S.1 c := by rw [hT.2 c (NE ()).1.2.2.2.1, ec5]
      rw [G_XProver_begin_106, uI (ci := 2) h2 (by decide), ec, i5, if_pos (nI_le (by omega) (by omega))]
      exact ⟨T, rfl, hT, h30, hj, hv⟩
    | succ d ih =>
      intro k fu T ee hf hT h30 hj hv
      obtain ⟨fu, rfl⟩ : ∃ q, fu = q + 1 := ⟨fu - 1, by omega⟩
      have ec : T.1 c = S.1 c := by rw [hT.2 c (NE ()).1.2.2.2.1, ec5]
      have epp : T.1 p = S5.1 p := hT.2 p (NE ()).2.1.2.2.1
      obtain ⟨m, hm, em, _⟩ := i7 k (by omega)
      have tm : tN (S.1 c 4 k) = m := by rw [em]; exact nI_clamp (by omega)
      have k4 : k < oN O c 4 := by rw [l4]; omega
      have m4 : m < oN O p 4 := by rw [p4]; omega
      obtain ⟨T', t1, t2, t3, t4, t5, t6⟩ := cls_addInv (O := O) (n := n) h5 ql0 (show k < 8 by omega) h30 (v := S5.1 p 4 m)
      rw [G_XProver_begin_106, uI (ci := 2) h2 (by decide), ec, i5, if_neg (nI_ge (by omega) (by omega)), uO (ci := 6) h4 (by decide), o6, uA (ci := 6) h4 (by decide), uA (ci := 2) h2 (by decide), ul (ci := 2) h2 (by decide) k4 (by omega), ec, em, ul (ci := 6) h4 (by decide) m4 (by omega), epp, uk (ci := 7) h5, t1, yV_some, hB_eq, nI_1]
      refine ih (k + 1) fu T' (by omega) (by omega) (hT.trans t2) t3 (fun j h0 h3 => by rw [t6 j h0 h3, hj j h0 h3]) (fun a ha => ?_)
      by_cases z : a = k
      · subst z; rw [t4, tm]
      · rw [t5 a z]; exact hv a (by omega)
  obtain ⟨S6, j1, j2, j3, j4, j5⟩ := loop I 0 n S5 (by omega) (by omega) rOnly.refl (by rw [q5]; exact q23) (fun _ _ _ => rfl) (fun a ha => absurd ha (Nat.not_lt_zero a))
  rw [nI_0] at b7 j1
  have w6 : S6.1 w = S5.1 w := j2.2 w (NE ()).2.2.1.1
  have p6' : S6.1 p = S5.1 p := j2.2 p (NE ()).2.1.2.2.1
  have cde : ∀ v, cCd S6 w v = cCd S5 w v ∧ cWd S6 w v = cWd S5 w v := fun v => by unfold cCd cWd; rw [w6]; exact ⟨rfl, rfl⟩
  have gg : Grw O w E S3 S6 (3 + E) M' := by
    obtain ⟨a1, a2, a3, a4⟩ := g6
    refine ⟨?_, a2, fun m y1 y2 => by rw [w6]; exact a3 m y1 y2, fun j m y1 y2 => by rw [w6]; exact a4 j m y1 y2⟩
    unfold CS at a1 ⊢
    rw [w6]; exact a1
  refine ⟨S6, M', ?_, (b1.trans (g3.mono (fun o ho => by rcases ho with z | z; exact Or.inl z; exact Or.inr (Or.inl z)))).trans (onl.of j2 (Or.inr (Or.inr rfl))), gg.1, gg.2.1, by omega, gg.2.2.1, fun e he => ?_, StC_grow b3 gg (by rw [p6', g4 5 (by decide)]) st5, StC_grow b3 gg (by rw [p6', g4 6 (by decide)]) st6, ⟨j3, fun k hk => ?_⟩, by rw [j4 4 (by decide) (by decide), q5]; exact q24, fun j y4 y5 y6 => by rw [p6', g4 j y4, b2.2 j y5 y6, p2']⟩
  · unfold G_XProver_begin
    rw [uO (ci := 6) h4 (by decide), o5, uk (ci := 3) n2.1, e1, yV_some, uO (ci := 6) h4 (by decide), o6, uk (ci := 7) h5, e2, yV_some, b7, G_XProver_begin_16, uI (ci := 2) h2 (by decide), ec3, e6, if_pos (nI_le (by omega) (by omega)), uA (ci := 6) h4 (by decide), uk (ci := 6) h4]
    have g1' : G_XProver_putIn O n p c (p, 5) 2 S3 = some ((), S4) := g1
    rw [g1', yV_some, uO (ci := 6) h4 (by decide), o5, uO (ci := 2) h2 (by decide), o4, uA (ci := 6) h4 (by decide), uk (ci := 3) n2.1, g2, yV_some]
    exact j1
  · obtain ⟨z0, z1, z2, z3⟩ := b4 e he
    exact ⟨by rw [gg.2.2.2 0 _ (by omega) (by omega)]; exact z0, by rw [gg.2.2.2 1 _ (by omega) (by omega)]; exact z1, by rw [gg.2.2.2 2 _ (by omega) (by omega)]; exact z2, by rw [gg.2.2.2 3 _ (by omega) (by omega)]; exact z3⟩
  · obtain ⟨m, hm, em, wm, _⟩ := i7 k hk
    have tm : tN (S.1 c 4 k) = m := by rw [em]; exact nI_clamp (by omega)
    obtain ⟨v, v1, v2, v3, v4⟩ := im m hm
    exact ⟨v, v1, by rw [j5 k hk, tm]; exact v2, by rw [(cde v).1, v3]; show cCd S f m = cCd S f (tN (S.1 c 4 k)); rw [tm], by rw [(cde v).2, v4]; exact wm⟩
end CBEGIN2
