def kpC (S : qS) (c f : Nat) (eS : Nat → Bool) (k : Nat) : Nat := fSb S f (stpT S c f 2 (pr 2 0) (st0C eS)) (pr 2 0) (tN (S.1 c 4 k))
section CKEPT
variable {O : qOb9} {x c u p f w q s l n E N I : Nat} {S : qS} {eS : Nat → Bool}
theorem cls_askKp (hO : ClO O x c u p f w q s l) (hn : 7000 ≤ n) (hI : CoI O c f E N I S eS) (h01 : ∀ m, S.1 p 3 m = 0 ∨ S.1 p 3 m = 1) {kk : Nat} (hk : kk < I) :
    ∃ S' M K dw dt, G_XProver_askKept O n p c (nI kk) u S = some ((), S') ∧ onl (fun o => o = w ∨ o = p ∨ o = q ∨ o = u) S S' ∧ S'.1 u 1 = S.1 u 1 ∧ S'.1 u 4 = S.1 u 4 ∧ AskO O u p w q E I M S' eS (ivC S c f) (Dp (rtk I (ivC S c f) (kpC S c f eS kk))) 0 dw dt ∧ S'.1 q 4 0 = nI K ∧ ((K = 0 ∧ mkN (kpC S c f eS kk) = cF) ∨ (K = 1 ∧ ∃ v, v < M ∧ v ≠ 0 ∧ S'.1 q 1 0 = nI v ∧ S'.1 q 2 0 = -1 ∧ cCd S' w v = mkN (kpC S c f eS kk) ∧ cWd S' w v = false)) ∧ ∃ v, v < M ∧ cCd S' w v = kpC S c f eS kk ∧ cWd S' w v = false := by
  have hO' := hO
  have NE := fun _ : Unit => ClO_ne hO'
  obtain ⟨⟨h1, h2, h3, h4, h5, h6, h7⟩, ⟨o1, o2, o3, o4, o5, o6, o7, o8, o9, o10, o11⟩, ⟨n1, n2, n3⟩, ⟨l1, l2, l3, l4, l5, l6⟩, ⟨pl3, pl4, pl5, pl6⟩, ⟨ql0, ql1, ql2⟩, _⟩ := hO
  have hE := hI.2.1
  have hN300 := hI.1.2.2.1
  have hN3 := (CS_big hI.1).2
  have e6 := hI.2.2.1
  have hI8 := hI.2.2.2.2.2.2.2.2.1
  obtain ⟨S1, b1, r1, v1, u11, u12, u13, u14, u15, u16⟩ := cls_outBegin (O := O) (n := n) (S := S) hO' hn (nI E) 0
  have hI1 : CoI O c f E N I S1 eS := CoI_same hI (r1.2 c (NE ()).1.2.2.2.2.2.2) (r1.2 f (NE ()).2.2.2.1.2.2.2)
  obtain ⟨S2, M2, b2, on2, c2, m2a, m2b, lo2, el2, s52, s62, q2, k2, pj2⟩ := cls_begin (O := O) (n := n) hO' hn hI1
  have nc : ∀ {A B : qS}, onl (fun o => o = w ∨ o = p ∨ o = q) A B → B.1 c = A.1 c ∧ B.1 f = A.1 f ∧ B.1 u = A.1 u := fun h => ⟨(h c (by rintro (z | z | z); exact (NE ()).1.2.1 z; exact (NE ()).1.1 z; exact (NE ()).1.2.2.2.1 z)).1, (h f (by rintro (z | z | z); exact (NE ()).2.2.1.2.2.2.2 z.symm; exact (NE ()).2.1.2.1 z.symm; exact (NE ()).2.2.2.1.1 z)).1, (h u (by rintro (z | z | z); exact (NE ()).2.2.1.2.2.2.1 z.symm; exact (NE ()).2.1.2.2.2.2.2 z.symm; exact (NE ()).2.2.2.2.1.2.2 z.symm)).1⟩
  have nw : ∀ {A B : qS}, onl (fun o => o = w ∨ o = p) A B → B.1 c = A.1 c ∧ B.1 f = A.1 f ∧ B.1 u = A.1 u ∧ B.1 q = A.1 q := fun h => ⟨(nc (h.mono (fun o ho => by rcases ho with z | z; exact Or.inl z; exact Or.inr (Or.inl z)))).1, (nc (h.mono (fun o ho => by rcases ho with z | z; exact Or.inl z; exact Or.inr (Or.inl z)))).2.1, (nc (h.mono (fun o ho => by rcases ho with z | z; exact Or.inl z; exact Or.inr (Or.inl z)))).2.2, (h q (by rintro (z | z); exact (NE ()).2.2.1.1 z.symm; exact (NE ()).2.1.2.2.1 z.symm)).1⟩
  obtain ⟨y2c, y2f, y2u⟩ := nc on2
  have S1c : S1.1 c = S.1 c := r1.2 c (NE ()).1.2.2.2.2.2.2
  have S1f : S1.1 f = S.1 f := r1.2 f (NE ()).2.2.2.1.2.2.2
  have S2c : S2.1 c = S.1 c := by rw [y2c, S1c]
  have S2f : S2.1 f = S.1 f := by rw [y2f, S1f]
  have hI2 : CoI O c f E N I S2 eS := CoI_same hI S2c S2f
  obtain ⟨S3, M3, b3, on3, p3, m3, g3, s53⟩ := cls_step (O := O) (n := n) hO' hn hI2 c2 (by omega) (Or.inl rfl) s52 (k := 2) (by omega)
  obtain ⟨y3c, y3f, y3u, y3q⟩ := nw on3
  have S3c : S3.1 c = S.1 c := by rw [y3c, S2c]
  have S3f : S3.1 f = S.1 f := by rw [y3f, S2f]
  rw [stpT_same S2c S2f] at s53
  obtain ⟨S4, S5, M5, e1, e2, on5, p5, m5, g5, im5⟩ := cls_images (O := O) (n := n) hO' hn (CoI_same hI S3c S3f) g3.1 (by omega) (Or.inl rfl) s53 (k := 2) (by omega)
  obtain ⟨y5c, y5f, y5u, y5q⟩ := nw on5
  have S5c : S5.1 c = S.1 c := by rw [y5c, S3c]
  have S5u : S5.1 u = S1.1 u := by rw [y5u, y3u, y2u]
  have g25 : Grw O w E S2 S5 M2 M5 := g3.trans g5
  have hM31 := (CS_big g5.1).1
  have q5 : QI S5 q w I M5 (ivC S c f) := by
    have : (fun k => cCd S1 f (tN (S1.1 c 4 k))) = ivC S c f := by funext k; unfold ivC cCd; rw [S1c, S1f]
    rw [this] at q2
    exact QI_grow c2 g25 (by rw [y5q, y3q]) (by rw [y5q, y3q]) q2
  -- the invariant behind the step
  obtain ⟨m, hm, em, wm, _⟩ := hI.2.2.2.2.2.2.2.2.2 kk hk
  have tm : tN (S.1 c 4 kk) = m := by rw [em]; exact nI_clamp (by omega)
  obtain ⟨v, hv, ev, cv, wv⟩ := im5 m hm
  have cv' : cCd S5 w v = kpC S c f eS kk := by rw [cv]; unfold kpC fSb; rw [tm, S3f]
  have wv' : cWd S5 w v = false := by rw [wv]; unfold cWd at wm ⊢; rw [S3f]; exact wm
  have p53 : ∀ m, S5.1 p 3 m = 0 ∨ S5.1 p 3 m = 1 := by
    intro m
    rw [p5 3 (by decide), p3 3 (by decide) (by decide), pj2 3 (by decide) (by decide) (by decide), r1.2 p (NE ()).2.1.2.2.2.2.2]
    exact h01 m
  obtain ⟨S6, b6, r6, p6, k6⟩ := cls_markInv (O := O) (n := n) hO' hn g5.1 p53 q5 hI8
  have S6w : S6.1 w = S5.1 w := r6.2 w (fun z => (NE ()).2.1.1 z.symm)
  have c6 : CS O w 5732 2048 S6 E M5 := CS_other g5.1 S6w
  obtain ⟨S7, b7, r7, p7, k7⟩ := cls_mark_MK (O := O) (n := n) (mkP hO') c6 c6.2.2.1 hv k6
  have S7w : S7.1 w = S5.1 w := by rw [r7.2 w (fun z => (NE ()).2.1.1 z.symm), S6w]
  have S7u : S7.1 u = S1.1 u := by rw [r7.2 u (fun z => (NE ()).2.1.2.2.2.2.2 z.symm), r6.2 u (fun z => (NE ()).2.1.2.2.2.2.2 z.symm), S5u]
  have c7 : CS O w 5732 2048 S7 E M5 := CS_other g5.1 S7w
  obtain ⟨S8, b8, on8, p8, d8, u8, w8, t8⟩ := cls_count (O := O) (n := n) hO' hn hE c7 k7.1 (by rw [S7u]; exact u15) (by rw [S7u]; exact u16)
  have S8w : S8.1 w = S5.1 w := by rw [(on8 w (by rintro (z | z); exact (NE ()).2.1.1 z.symm; exact (NE ()).2.2.1.2.2.2.1 z)).1, S7w]
  have S8q : S8.1 q = S5.1 q := by rw [(on8 q (by rintro (z | z); exact (NE ()).2.1.2.2.1 z.symm; exact (NE ()).2.2.2.2.1.2.2 z)).1, r7.2 q (fun z => (NE ()).2.1.2.2.1 z.symm), r6.2 q (fun z => (NE ()).2.1.2.2.1 z.symm)]
  have c8 : CS O w 5732 2048 S8 E M5 := CS_other g5.1 S8w
  obtain ⟨v9, M9, S9, e9, k9⟩ := cls_mk7 (O := O) (n := n) hn hE c8 (by omega) hv (by unfold cWd at wv' ⊢; rw [S8w]; exact wv')
  have cd8 : cCd S8 w v = kpC S c f eS kk := by rw [← cv']; unfold cCd; rw [S8w]
  rw [cd8] at k9
  have g9 : Grw O w E S8 S9 M5 M9 := ⟨k9.2.2.2.1, k9.2.1, k9.2.2.2.2.2.2.2, k9.2.2.2.2.2.1⟩
  have r9 := k9.2.2.2.2.1
  have S9q : S9.1 q = S5.1 q := by rw [r9.2 q (fun z => (NE ()).2.2.1.1 z.symm), S8q]
  have q40 : S9.1 q 4 0 = nI 0 := by rw [S9q, y5q, y3q, k2]; rfl
  have hv9 : v9 < 6000 := by have := k9.1; have := k9.2.2.2.1.2.2.1; omega
  obtain ⟨a0, a1⟩ := cls_addClaim (O := O) (n := n) h5 ql1 ql2 (show 0 < 16 by omega) (T := S9) q40 hv9 (e := -1)
  have w9 : cWd S9 w v9 = false := by
    have := cd_wc k9.2.2.2.1.2.2.2.1.2.1 (CS_big k9.2.2.2.1).1 hE v9 k9.1
    rw [show cd _ _ _ _ v9 = cCd S9 w v9 from rfl, k9.2.2.2.2.2.2.1] at this
    rw [show cWd S9 w v9 = _ from this.symm, ← cv']
    exact wc_mkN g5.1.2.2.2.1 hM31 hE hv wv'
  -- the end, whatever the claim came to
  have fin : ∃ S10 K, G_XQuestion_addClaim O n q (nI v9) (-1) S9 = some ((), S10) ∧ rOnly q S9 S10 ∧ (∀ j, j ≠ 1 → j ≠ 2 → j ≠ 4 → S10.1 q j = S9.1 q j) ∧ S10.1 q 4 0 = nI K ∧ ((K = 0 ∧ mkN (kpC S c f eS kk) = cF) ∨ (K = 1 ∧ v9 ≠ 0 ∧ S10.1 q 1 0 = nI v9 ∧ S10.1 q 2 0 = -1)) := by
    by_cases z : v9 = 0
    · refine ⟨S9, 0, a0 z, rOnly.refl, fun _ _ _ _ => rfl, q40, Or.inl ⟨rfl, ?_⟩⟩
      rw [← k9.2.2.2.2.2.2.1, z]
      exact (cd_0 k9.2.2.2.1.2.2.2.1 (CS_big k9.2.2.2.1).1 hE).1
    · obtain ⟨T', t1, t2, t3, t4, t5, t6, t7⟩ := a1 z
      exact ⟨T', 1, t1, t2, t7, t3, Or.inr ⟨rfl, z, t4, t5⟩⟩
  obtain ⟨S10, K, b10, r10, q10, k10, cl10⟩ := fin
  have S10w : S10.1 w = S9.1 w := r10.2 w (NE ()).2.2.1.1
  have g510 : Grw O w E S5 S10 M5 M9 := ((Grw_eq g5.1 S8w).trans g9).trans (Grw_eq k9.2.2.2.1 S10w)
  have hnum := marks_num c7.2.2.2.1 hM31 hE k7.1 k7.2
  have hroots : (fun cc => ∃ m, m < M5 ∧ ((∃ k, k < I ∧ S5.1 q 0 k = nI m) ∨ m = v) ∧ cd (S7.1 w 0) (S7.1 w 1) (S7.1 w 2) (S7.1 w 3) m = cc) = rtk I (ivC S c f) (kpC S c f eS kk) := by
    have cd7 : ∀ m, cd (S7.1 w 0) (S7.1 w 1) (S7.1 w 2) (S7.1 w 3) m = cCd S5 w m := fun m => by unfold cCd; rw [S7w]
    funext cc
    apply propext
    constructor
    · rintro ⟨m, hm, (⟨k, hk', ek⟩ | rfl), ec⟩
      · right
        obtain ⟨v', hv', ev', cv2, _⟩ := q5.2 k hk'
        have := (nI_eq (by omega) (by omega)).mp (ek.symm.trans ev')
        subst this
        rw [cd7, cv2] at ec
        exact ⟨k, hk', ec.symm⟩
      · left; rw [← ec, cd7, cv']
    · rintro (hc | ⟨k, hk', hc⟩)
      · exact ⟨v, hv, Or.inr rfl, by rw [cd7, cv', hc]⟩
      · obtain ⟨v', hv', ev', cv2, _⟩ := q5.2 k hk'
        exact ⟨v', hv', Or.inl ⟨k, hk', ev'⟩, by rw [cd7, cv2, hc]⟩
  rw [hroots, ← d8] at hnum
  have bW := cnt_le_n (P := gW (S7.1 w 0) (S8.1 p 3)) M5
  have bT := cnt_le_n (P := gT (S7.1 w 0) (S8.1 p 3)) M5
  have hM5 := g5.1.2.2.1
  have y10u : S10.1 u = S8.1 u := by rw [r10.2 u (fun z => (NE ()).2.2.2.2.1.2.2 z.symm), r9.2 u (fun z => (NE ()).2.2.1.2.2.2.1 z.symm)]
  have y10p : S10.1 p = S8.1 p := by rw [r10.2 p (NE ()).2.1.2.2.1, r9.2 p (NE ()).2.1.1]
  have d801 : ∀ m, S8.1 p 3 m = 0 ∨ S8.1 p 3 m = 1 := fun m => by rw [d8]; exact mpAll_01 M5 _ k7.1 m
  have m2M : 3 + E ≤ M5 := by have := g25.2.1; omega
  refine ⟨S10, M9, K, _, _, ?_, ?_, ?_, ?_, ⟨g510.1, ElW_grow g510 m2M (ElW_grow g25 m2a el2), ⟨by have := g510.2.1; omega, low_grow g510 (low_grow g25 lo2 m2a) m2M⟩, QI_grow g5.1 g510 (by rw [q10 0 (by decide) (by decide) (by decide), S9q]) (by rw [q10 3 (by decide) (by decide) (by decide), S9q]) q5, fun m => by rw [y10p]; exact d801 m, by rw [y10u]; exact w8, by rw [y10u]; exact t8, by omega, by omega, hnum.1, hnum.2, ?_, ?_, fun i hi => ?_⟩, k10, ?_, v, by have := g510.2.1; omega, by rw [(Grw.cd g5.1 g510 hv).1]; exact cv', by rw [(Grw.cd g5.1 g510 hv).2]; exact wv'⟩
  · have k4 : kk < oN O c 4 := by rw [l4]; omega
    have mp4 : m < oN O p 4 := by rw [pl4]; omega
    unfold G_XProver_askKept
    rw [uI (ci := 2) h2 (by decide), e6, uk (ci := 4) h3, b1, yV_some, uk (ci := 6) h4, b2, yV_some, uA (ci := 6) h4 (by decide), uk (ci := 6) h4]
    have b3' : G_XProver_step O n p c (p, 5) 2 S2 = some ((), S3) := b3
    have e1' : G_XProver_putIn O n p c (p, 5) 2 S3 = some ((), S4) := e1
    rw [b3', yV_some, uA (ci := 6) h4 (by decide), uk (ci := 6) h4, e1', yV_some, uO (ci := 6) h4 (by decide), o5, uO (ci := 2) h2 (by decide), o4, uA (ci := 6) h4 (by decide), uk (ci := 3) n2.1, e2, yV_some, uA (ci := 6) h4 (by decide), uA (ci := 2) h2 (by decide), ul (ci := 2) h2 (by decide) k4 (by omega), S5c, em, ul (ci := 6) h4 (by decide) mp4 (by omega), ev, uk (ci := 6) h4, b6, yV_some, uO (ci := 6) h4 (by decide), o5, uA (ci := 6) h4 (by decide), uk (ci := 3) n2.1, b7, yV_some, uk (ci := 6) h4, b8, yV_some, uO (ci := 6) h4 (by decide), o6, uO (ci := 6) h4 (by decide), o5, uk (ci := 3) n2.1, e9, yC_some, uk (ci := 7) h5, b10, yV_some]
  · have l1 : ∀ {A B : qS}, onl (fun o => o = w ∨ o = p) A B → onl (fun o => o = w ∨ o = p ∨ o = q ∨ o = u) A B := fun h => h.mono (fun o ho => by rcases ho with z | z; exact Or.inl z; exact Or.inr (Or.inl z))
    have l2 : ∀ {A B : qS}, onl (fun o => o = w ∨ o = p ∨ o = q) A B → onl (fun o => o = w ∨ o = p ∨ o = q ∨ o = u) A B := fun h => h.mono (fun o ho => by rcases ho with z | z | z; exact Or.inl z; exact Or.inr (Or.inl z); exact Or.inr (Or.inr (Or.inl z)))
    exact (onl.of r1 (Or.inr (Or.inr (Or.inr rfl)))).trans ((l2 on2).trans ((l1 on3).trans ((l1 on5).trans ((onl.of r6 (Or.inr (Or.inl rfl))).trans ((onl.of r7 (Or.inr (Or.inl rfl))).trans ((on8.mono (fun o ho => by rcases ho with z | z; exact Or.inr (Or.inl z); exact Or.inr (Or.inr (Or.inr z)))).trans ((onl.of r9 (Or.inl rfl)).trans (onl.of r10 (Or.inr (Or.inr (Or.inl rfl)))))))))))
  · rw [y10u, u8 1 (by decide) (by decide), S7u]; exact u11
  · rw [y10u, u8 4 (by decide) (by decide), S7u]; exact u14
  · rw [y10u, u8 2 (by decide) (by decide), S7u]; exact u12
  · rw [y10u, u8 3 (by decide) (by decide), S7u]; exact u13
  · rw [y10u, u8 0 (by decide) (by decide), S7u]; exact v1 i hi
  · rcases cl10 with ⟨z1, z2⟩ | ⟨z1, z2, z3, z4⟩
    · exact Or.inl ⟨z1, z2⟩
    · refine Or.inr ⟨z1, v9, k9.1, z2, z3, z4, ?_, ?_⟩
      · rw [← k9.2.2.2.2.2.2.1]; unfold cCd; rw [S10w]
      · rw [← w9]; unfold cWd; rw [S10w]
end CKEPT
