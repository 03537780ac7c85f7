def ivC (S : qS) (c f k : Nat) : Nat := cCd S f (tN (S.1 c 4 k))
def snC (S : qS) (c E e : Nat) : Bool := decide (e < E) && !decide (S.1 c 3 e = -1)
theorem snC_iff {S : qS} {c E e : Nat} : snC S c E e = true ↔ e < E ∧ ¬ S.1 c 3 e = -1 := by
  unfold snC
  rw [Bool.and_eq_true, decide_eq_true_iff, Bool.not_eq_true', decide_eq_false_iff_not]
def oneC (S : qS) (c f d : Nat) (eS : Nat → Bool) : Nat → Nat := itr (stpT S c f 2 (pr 0 0)) d (stpT S c f 2 (pr 1 0) (st0C eS))
def othC (S : qS) (c f d : Nat) (eS : Nat → Bool) : Nat → Nat := stpT S c f 3 (pr 0 0) (itr (stpT S c f 2 (pr 0 0)) d (st0C eS))
section CASK4
variable {O : qOb9} {x c u p f w q s l n E N I : Nat} {S : qS} {eS : Nat → Bool}
theorem QI_grow {S' : qS} {M M' : Nat} {iv : Nat → Nat} (hC : CS O w 5732 2048 S E M) (h : Grw O w E S S' M M') (h0 : S'.1 q 0 = S.1 q 0) (h3 : S'.1 q 3 = S.1 q 3) (hQ : QI S q w I M iv) : QI S' q w I M' iv := by
  refine ⟨by rw [h3]; exact hQ.1, fun k hk => ?_⟩
  obtain ⟨v, hv, ev, cv, wv⟩ := hQ.2 k hk
  have hle := h.2.1
  obtain ⟨g1, g2⟩ := Grw.cd hC h hv
  exact ⟨v, by omega, by rw [h0]; exact ev, by rw [g1]; exact cv, by rw [g2]; exact wv⟩
theorem ElW_grow {S' : qS} {M M' : Nat} (h : Grw O w E S S' M M') (hM : 3 + E ≤ M) (hE' : ElW w S E eS) : ElW w S' E eS := fun e he => by
  obtain ⟨z0, z1, z2, z3⟩ := hE' e he
  exact ⟨by rw [h.2.2.2 0 _ (by omega) (by omega)]; exact z0, by rw [h.2.2.2 1 _ (by omega) (by omega)]; exact z1, by rw [h.2.2.2 2 _ (by omega) (by omega)]; exact z2, by rw [h.2.2.2 3 _ (by omega) (by omega)]; exact z3⟩
theorem low_grow {S' : qS} {M M' b : Nat} (h : Grw O w E S S' M M') (hl : ∀ m, b ≤ m → m < M → ¬ S.1 w 0 m ≤ 4) (hb : b ≤ M) : ∀ m, b ≤ m → m < M' → ¬ S'.1 w 0 m ≤ 4 := fun m h1 h2 => by
  by_cases z : m < M
  · rw [h.2.2.2 0 m (by omega) z]; exact hl m h1 z
  · exact h.2.2.1 m (by omega) h2
/-- the store is the same -/
theorem Grw_eq {S' : qS} {M : Nat} (hC : CS O w 5732 2048 S E M) (h : S'.1 w = S.1 w) : Grw O w E S S' M M := ⟨CS_other hC h, Nat.le_refl M, fun m h1 h2 => by omega, fun j m _ _ => by rw [h]⟩
/-- the ways' nodes are there -/
def WyN (S : qS) (w M E : Nat) (c1 c2 : Nat → Nat) (eS : Nat → Bool) : Prop := ∀ e, e < E → ∃ m m', m < M ∧ m' < M ∧ cCd S w m = c1 e ∧ cCd S w m' = c2 e ∧ cWd S w m = eS e ∧ cWd S w m' = eS e
theorem cls_askEq (hO : ClO O x c u p f w q s l) (hn : 7000 ≤ n) (hI : CoI O c f E N I S eS) (h01 : ∀ m, S.1 p 3 m = 0 ∨ S.1 p 3 m = 1) {d : Nat} (hd : d ≤ 8) :
    ∃ S' M K dw dt, G_XProver_askEquation O n p c (nI d) u S = some ((), S') ∧ onl (fun o => o = w ∨ o = p ∨ o = q ∨ o = u) S S' ∧ S'.1 u 1 = S.1 u 1 ∧ S'.1 u 4 = S.1 u 4 ∧ AskO O u p w q E I M S' eS (ivC S c f) (Dp (rts I (ivC S c f) (snC S c E) (oneC S c f d eS) (othC S c f d eS))) 1 dw dt ∧ QCe S' q w M K E (oneC S c f d eS) (othC S c f d eS) (snC S c E) ∧ WyN S' w M E (oneC S c f d eS) (othC S c f d eS) eS := by
  have hO' := hO
  have NE := fun _ : Unit => ClO_ne hO'
  obtain ⟨⟨h1, h2, h3, h4, h5, h6, h7⟩, ⟨o1, o2, o3, o4, o5, o6, o7, o8, o9, o10, o11⟩, ⟨n1, n2, n3⟩, _⟩ := hO
  have hE := hI.2.1
  have hN300 := hI.1.2.2.1
  have hN3 := (CS_big hI.1).2
  have e6 := hI.2.2.1
  have hI8 := hI.2.2.2.2.2.2.2.2.1
  obtain ⟨S1, b1, r1, v1, u11, u12, u13, u14, u15, u16⟩ := cls_outBegin (O := O) (n := n) (S := S) hO' hn (nI E) 1
  have hI1 : CoI O c f E N I S1 eS := CoI_same hI (r1.2 c (NE ()).1.2.2.2.2.2.2) (r1.2 f (NE ()).2.2.2.1.2.2.2)
  obtain ⟨S2, M2, b2, on2, c2, m2a, m2b, lo2, el2, s52, s62, q2, k2, pj2⟩ := cls_begin (O := O) (n := n) hO' hn hI1
  -- objects that begin left alone
  have nc : ∀ {A B : qS}, onl (fun o => o = w ∨ o = p ∨ o = q) A B → B.1 c = A.1 c ∧ B.1 f = A.1 f ∧ B.1 u = A.1 u := fun h => ⟨(h c (by rintro (z | z | z); exact (NE ()).1.2.1 z; exact (NE ()).1.1 z; exact (NE ()).1.2.2.2.1 z)).1, (h f (by rintro (z | z | z); exact (NE ()).2.2.1.2.2.2.2 z.symm; exact (NE ()).2.1.2.1 z.symm; exact (NE ()).2.2.2.1.1 z)).1, (h u (by rintro (z | z | z); exact (NE ()).2.2.1.2.2.2.1 z.symm; exact (NE ()).2.1.2.2.2.2.2 z.symm; exact (NE ()).2.2.2.2.1.2.2 z.symm)).1⟩
  have nw : ∀ {A B : qS}, onl (fun o => o = w ∨ o = p) A B → B.1 c = A.1 c ∧ B.1 f = A.1 f ∧ B.1 u = A.1 u ∧ B.1 q = A.1 q := fun h => ⟨(nc (h.mono (fun o ho => by rcases ho with z | z; exact Or.inl z; exact Or.inr (Or.inl z)))).1, (nc (h.mono (fun o ho => by rcases ho with z | z; exact Or.inl z; exact Or.inr (Or.inl z)))).2.1, (nc (h.mono (fun o ho => by rcases ho with z | z; exact Or.inl z; exact Or.inr (Or.inl z)))).2.2, (h q (by rintro (z | z); exact (NE ()).2.2.1.1 z.symm; exact (NE ()).2.1.2.2.1 z.symm)).1⟩
  obtain ⟨y2c, y2f, y2u⟩ := nc on2
  have S1c : S1.1 c = S.1 c := r1.2 c (NE ()).1.2.2.2.2.2.2
  have S1f : S1.1 f = S.1 f := r1.2 f (NE ()).2.2.2.1.2.2.2
  have S2c : S2.1 c = S.1 c := by rw [y2c, S1c]
  have S2f : S2.1 f = S.1 f := by rw [y2f, S1f]
  have hI2 : CoI O c f E N I S2 eS := CoI_same hI S2c S2f
  obtain ⟨S3, M3, b3, on3, p3, m3, g3, s53⟩ := cls_step (O := O) (n := n) hO' hn hI2 c2 (by omega) (Or.inl rfl) s52 (k := 1) (by omega)
  obtain ⟨y3c, y3f, y3u, y3q⟩ := nw on3
  have S3c : S3.1 c = S.1 c := by rw [y3c, S2c]
  have S3f : S3.1 f = S.1 f := by rw [y3f, S2f]
  rw [stpT_same S2c S2f] at s53
  have s63 : StC S3 w p 6 E M3 (st0C eS) eS := StC_grow c2 g3 (p3 6 (by decide) (by decide)) s62
  have dN : d * (N - 3) ≤ 2376 := by
    have := Nat.mul_le_mul hd (show N - 3 ≤ 297 by omega)
    omega
  have hI3 : CoI O c f E N I S3 eS := CoI_same hI S3c S3f
  obtain ⟨S4, M4, b4, on4, p4, m4, g4, s54, s64⟩ := cls_ask_27 (O := O) (n := n) hO' hn hI3 hd (Z := fun o => o = w ∨ o = p) ⟨Or.inl rfl, Or.inr rfl⟩ (by rintro (z | z); exact (NE ()).1.2.1 z; exact (NE ()).1.1 z) (by rintro (z | z); exact (NE ()).2.2.1.2.2.2.2 z.symm; exact (NE ()).2.1.2.1 z.symm) d 0 n S3 M3 _ _ (by omega) (by omega) onl.refl g3.1 (by omega) s53 s63
  rw [stpT_fun S3c S3f] at s54 s64
  obtain ⟨y4c, y4f, y4u, y4q⟩ := nw on4
  have S4c : S4.1 c = S.1 c := by rw [y4c, S3c]
  have S4f : S4.1 f = S.1 f := by rw [y4f, S3f]
  obtain ⟨S5, M5, b5, on5, p5, m5, g5, s65⟩ := cls_plainStep (O := O) (n := n) hO' hn (CoI_same hI S4c S4f) g4.1 (by omega) (Or.inr rfl) s64
  rw [stpT_same S4c S4f] at s65
  obtain ⟨y5c, y5f, y5u, y5q⟩ := nw on5
  have s55 : StC S5 w p 5 E M5 (oneC S c f d eS) eS := StC_grow g4.1 g5 (p5 5 (by decide) (by decide)) s54
  have g25 : Grw O w E S2 S5 M2 M5 := (g3.trans g4).trans g5
  have q5 : QI S5 q w I M5 (ivC S c f) := by
    have : (fun k => cCd S1 f (tN (S1.1 c 4 k))) = ivC S c f := by funext k; unfold ivC cCd; rw [S1c, S1f]
    rw [this] at q2
    exact QI_grow c2 g25 (by rw [y5q, y4q, y3q]) (by rw [y5q, y4q, y3q]) q2
  have S5c : S5.1 c = S.1 c := by rw [y5c, S4c]
  have S5u : S5.1 u = S1.1 u := by rw [y5u, y4u, y3u, y2u]
  have p53 : ∀ m, S5.1 p 3 m = 0 ∨ S5.1 p 3 m = 1 := by
    intro m
    rw [p5 3 (by decide) (by decide), p4 3 (by decide) (by decide) (by decide), p3 3 (by decide) (by decide), pj2 3 (by decide) (by decide) (by decide), r1.2 p (NE ()).2.1.2.2.2.2.2]
    exact h01 m
  obtain ⟨S6, b6, r6, p6, k6⟩ := cls_markInv (O := O) (n := n) hO' hn g5.1 p53 q5 hI8
  have S6w : S6.1 w = S5.1 w := r6.2 w (fun z => (NE ()).2.1.1 z.symm)
  have S6q : S6.1 q = S5.1 q := r6.2 q (fun z => (NE ()).2.1.2.2.1 z.symm)
  have S6c : S6.1 c = S.1 c := by rw [r6.2 c (NE ()).1.1, S5c]
  have S6u : S6.1 u = S1.1 u := by rw [r6.2 u (fun z => (NE ()).2.1.2.2.2.2.2 z.symm), S5u]
  have c6 : CS O w 5732 2048 S6 E M5 := CS_other g5.1 S6w
  have cd6 : ∀ m, cCd S6 w m = cCd S5 w m ∧ cWd S6 w m = cWd S5 w m := fun m => by unfold cCd cWd; rw [S6w]; exact ⟨rfl, rfl⟩
  have hM31 := (CS_big g5.1).1
  -- the ways' nodes
  have G5 : ∀ e, e < E → tN (S6.1 p 5 e) < M5 ∧ S6.1 p 5 e = nI (tN (S6.1 p 5 e)) ∧ cCd S6 w (tN (S6.1 p 5 e)) = oneC S c f d eS e ∧ cWd S6 w (tN (S6.1 p 5 e)) = eS e := fun e he => by
    obtain ⟨v, hv, ev, cv, wv⟩ := s55 e he
    have : tN (S6.1 p 5 e) = v := by rw [p6 5 (by decide), ev]; exact nI_clamp (by omega)
    rw [this]
    exact ⟨hv, by rw [p6 5 (by decide)]; exact ev, by rw [(cd6 v).1]; exact cv, by rw [(cd6 v).2]; exact wv⟩
  have G6 : ∀ e, e < E → tN (S6.1 p 6 e) < M5 ∧ S6.1 p 6 e = nI (tN (S6.1 p 6 e)) ∧ cCd S6 w (tN (S6.1 p 6 e)) = othC S c f d eS e ∧ cWd S6 w (tN (S6.1 p 6 e)) = eS e := fun e he => by
    obtain ⟨v, hv, ev, cv, wv⟩ := s65 e he
    have : tN (S6.1 p 6 e) = v := by rw [p6 6 (by decide), ev]; exact nI_clamp (by omega)
    rw [this]
    exact ⟨hv, by rw [p6 6 (by decide)]; exact ev, by rw [(cd6 v).1]; exact cv, by rw [(cd6 v).2]; exact wv⟩
  obtain ⟨S7, b7, r7, p7, k7⟩ := cls_ask_75 (O := O) (n := n) hO' hn (B := S6) (M := M5) hE c6 (by rw [S6c]; exact e6) (g5 := fun e => tN (S6.1 p 5 e)) (g6 := fun e => tN (S6.1 p 6 e)) (fun e he => ⟨(G5 e he).1, (G5 e he).2.1⟩) (fun e he => ⟨(G6 e he).1, (G6 e he).2.1⟩) (T0 := fun m => ∃ k, k < I ∧ S5.1 q 0 k = nI m) E 0 n S6 (by omega) (by omega) rOnly.refl (fun _ _ => rfl) (MKc_iff k6 (fun m hm => ⟨Or.inl, fun y => y.elim id (fun ⟨a, ha, _⟩ => absurd ha (Nat.not_lt_zero a))⟩))
  have S7w : S7.1 w = S5.1 w := by rw [r7.2 w (fun z => (NE ()).2.1.1 z.symm), S6w]
  have S7u : S7.1 u = S1.1 u := by rw [r7.2 u (fun z => (NE ()).2.1.2.2.2.2.2 z.symm), S6u]
  have c7 : CS O w 5732 2048 S7 E M5 := CS_other g5.1 S7w
  obtain ⟨S8, b8, on8, p8, d8, u8, w8, t8⟩ := cls_count (O := O) (n := n) hO' hn hE c7 k7.1 (by rw [S7u]; exact u15) (by rw [S7u]; exact u16)
  have S8w : S8.1 w = S5.1 w := by rw [(on8 w (by rintro (z | z); exact (NE ()).2.1.1 z.symm; exact (NE ()).2.2.1.2.2.2.1 z)).1, S7w]
  have S8q : S8.1 q = S5.1 q := by rw [(on8 q (by rintro (z | z); exact (NE ()).2.1.2.2.1 z.symm; exact (NE ()).2.2.2.2.1.2.2 z)).1, r7.2 q (fun z => (NE ()).2.1.2.2.1 z.symm), S6q]
  have S8c : S8.1 c = S.1 c := by rw [(on8 c (by rintro (z | z); exact (NE ()).1.1 z; exact (NE ()).1.2.2.2.2.2.2 z)).1, r7.2 c (NE ()).1.1, S6c]
  have c8 : CS O w 5732 2048 S8 E M5 := CS_other g5.1 S8w
  have cd8 : ∀ m, cCd S8 w m = cCd S6 w m ∧ cWd S8 w m = cWd S6 w m := fun m => by unfold cCd cWd; rw [S8w, S6w]; exact ⟨rfl, rfl⟩
  have p85 : ∀ i, i ≠ 3 → S8.1 p i = S6.1 p i := fun i hi => by rw [p8 i hi, p7 i hi]
  obtain ⟨S9, M9, K, b9, on9, g9, q9, Q9⟩ := cls_ask_145 (O := O) (n := n) hO' hn (B := S8) (M0 := M5) hE c8 (by rw [S8c]; exact e6) (by omega) (g5 := fun e => tN (S6.1 p 5 e)) (g6 := fun e => tN (S6.1 p 6 e)) (c1 := oneC S c f d eS) (c2 := othC S c f d eS) (fun e he => ⟨(G5 e he).1, by rw [p85 5 (by decide)]; exact (G5 e he).2.1, by rw [(cd8 _).1]; exact (G5 e he).2.2.1⟩) (fun e he => ⟨(G6 e he).1, by rw [p85 6 (by decide)]; exact (G6 e he).2.1, by rw [(cd8 _).2, (cd8 _).2, (G5 e he).2.2.2, (G6 e he).2.2.2], fun _ => by rw [(cd8 _).1]; exact (G6 e he).2.2.1⟩) (sn := snC S c E) (fun e => by rw [S8c]; exact snC_iff) E 0 n S8 M5 0 (by omega) (by omega) onl.refl (Grw.refl c8) (by omega) (fun _ _ _ _ => rfl) ⟨by rw [S8q, y5q, y4q, y3q, k2]; rfl, by omega, fun i hi => absurd hi (Nat.not_lt_zero i), fun i j a b hij hj => absurd hj (Nat.not_lt_zero j), fun a ha => absurd ha (Nat.not_lt_zero a)⟩
  rw [nI_0] at b4 b7 b9
  -- the deep codes
  have hnum := marks_num c7.2.2.2.1 hM31 hE k7.1 k7.2
  have hroots : (fun cc => ∃ m, m < M5 ∧ ((∃ k, k < I ∧ S5.1 q 0 k = nI m) ∨ ∃ a, a < E ∧ ¬ S6.1 c 3 a = -1 ∧ (m = tN (S6.1 p 5 a) ∨ m = tN (S6.1 p 6 a))) ∧ cd (S7.1 w 0) (S7.1 w 1) (S7.1 w 2) (S7.1 w 3) m = cc) = rts I (ivC S c f) (snC S c E) (oneC S c f d eS) (othC S c f d eS) := by
    have cd7 : ∀ m, cd (S7.1 w 0) (S7.1 w 1) (S7.1 w 2) (S7.1 w 3) m = cCd S6 w m := fun m => by unfold cCd; rw [S7w, S6w]
    funext cc
    apply propext
    constructor
    · rintro ⟨m, hm, (⟨k, hk, ek⟩ | ⟨a, ha, hs, hc⟩), ec⟩
      · right
        obtain ⟨v, hv, ev, cv, _⟩ := q5.2 k hk
        have := (nI_eq (by omega) (by omega)).mp (ek.symm.trans ev)
        subst this
        rw [cd7, (cd6 m).1, cv] at ec
        exact ⟨k, hk, ec.symm⟩
      · left
        rw [S6c] at hs
        refine ⟨a, snC_iff.mpr ⟨ha, hs⟩, ?_⟩
        rw [cd7] at ec
        rcases hc with hc | hc
        · left; rw [← ec, hc, (G5 a ha).2.2.1]
        · right; rw [← ec, hc, (G6 a ha).2.2.1]
    · rintro (⟨e, he, hc⟩ | ⟨k, hk, hc⟩)
      · obtain ⟨he1, he2⟩ := snC_iff.mp he
        rcases hc with hc | hc
        · exact ⟨tN (S6.1 p 5 e), (G5 e he1).1, Or.inr ⟨e, he1, by rw [S6c]; exact he2, Or.inl rfl⟩, by rw [cd7, (G5 e he1).2.2.1, hc]⟩
        · exact ⟨tN (S6.1 p 6 e), (G6 e he1).1, Or.inr ⟨e, he1, by rw [S6c]; exact he2, Or.inr rfl⟩, by rw [cd7, (G6 e he1).2.2.1, hc]⟩
      · obtain ⟨v, hv, ev, cv, _⟩ := q5.2 k hk
        exact ⟨v, hv, Or.inl ⟨k, hk, ev⟩, by rw [cd7, (cd6 v).1, cv, hc]⟩
  rw [hroots, ← d8] at hnum
  have bW := cnt_le_n (P := gW (S7.1 w 0) (S8.1 p 3)) M5
  have bT := cnt_le_n (P := gT (S7.1 w 0) (S8.1 p 3)) M5
  have nq : ∀ {A B : qS}, onl (fun o => o = w ∨ o = q) A B → B.1 u = A.1 u ∧ B.1 p = A.1 p := fun h => ⟨(h u (by rintro (z | z); exact (NE ()).2.2.1.2.2.2.1 z.symm; exact (NE ()).2.2.2.2.1.2.2 z.symm)).1, (h p (by rintro (z | z); exact (NE ()).2.1.1 z; exact (NE ()).2.1.2.2.1 z)).1⟩
  obtain ⟨y9u, y9p⟩ := nq on9
  have g59 : Grw O w E S5 S9 M5 M9 := (Grw_eq g5.1 S8w).trans g9
  have hM5 := g5.1.2.2.1
  have d801 : ∀ m, S8.1 p 3 m = 0 ∨ S8.1 p 3 m = 1 := fun m => by rw [d8]; exact mpAll_01 M5 _ k7.1 m
  have m2M : 3 + E ≤ M5 := by have := g25.2.1; omega
  refine ⟨S9, M9, K, _, _, ?_, ?_, ?_, ?_, ⟨g59.1, ElW_grow g59 m2M (ElW_grow g25 m2a el2), ⟨by have := g59.2.1; omega, low_grow g59 (low_grow g25 lo2 m2a) m2M⟩, QI_grow g5.1 g59 (by rw [q9 0 (by decide) (by decide) (by decide), S8q]) (by rw [q9 3 (by decide) (by decide) (by decide), S8q]) q5, fun m => by rw [y9p]; exact d801 m, by rw [y9u]; exact w8, by rw [y9u]; exact t8, by omega, by omega, hnum.1, hnum.2, ?_, ?_, fun i hi => ?_⟩, Q9, fun e he => ⟨tN (S6.1 p 5 e), tN (S6.1 p 6 e), ?_, ?_, ?_, ?_, ?_, ?_⟩⟩
  · unfold G_XProver_askEquation
    rw [uI (ci := 2) h2 (by decide), e6, uk (ci := 4) h3, b1, yV_some, uk (ci := 6) h4, b2, yV_some, uA (ci := 6) h4 (by decide), uk (ci := 6) h4]
    have b3' : G_XProver_step O n p c (p, 5) 1 S2 = some ((), S3) := b3
    rw [b3', yV_some, b4, b5, yV_some, b6, yV_some, b7, b8, yV_some]
    exact b9
  · have l1 : ∀ {A B : qS}, onl (fun o => o = w ∨ o = p) A B → onl (fun o => o = w ∨ o = p ∨ o = q ∨ o = u) A B := fun h => h.mono (fun o ho => by rcases ho with z | z; exact Or.inl z; exact Or.inr (Or.inl z))
    have l2 : ∀ {A B : qS}, onl (fun o => o = w ∨ o = p ∨ o = q) A B → onl (fun o => o = w ∨ o = p ∨ o = q ∨ o = u) A B := fun h => h.mono (fun o ho => by rcases ho with z | z | z; exact Or.inl z; exact Or.inr (Or.inl z); exact Or.inr (Or.inr (Or.inl z)))
    exact (onl.of r1 (Or.inr (Or.inr (Or.inr rfl)))).trans ((l2 on2).trans ((l1 on3).trans ((l1 on4).trans ((l1 on5).trans ((onl.of r6 (Or.inr (Or.inl rfl))).trans ((onl.of r7 (Or.inr (Or.inl rfl))).trans ((on8.mono (fun o ho => by rcases ho with z | z; exact Or.inr (Or.inl z); exact Or.inr (Or.inr (Or.inr z)))).trans (on9.mono (fun o ho => by rcases ho with z | z; exact Or.inl z; exact Or.inr (Or.inr (Or.inl z)))))))))))
  · rw [y9u, u8 1 (by decide) (by decide), S7u]; exact u11
  · rw [y9u, u8 4 (by decide) (by decide), S7u]; exact u14
  · rw [y9u, u8 2 (by decide) (by decide), S7u]; exact u12
  · rw [y9u, u8 3 (by decide) (by decide), S7u]; exact u13
  · rw [y9u, u8 0 (by decide) (by decide), S7u]; exact v1 i hi
  · have := (G5 e he).1
    have := g59.2.1
    omega
  · have := (G6 e he).1
    have := g59.2.1
    omega
  · rw [(Grw.cd g5.1 g59 (G5 e he).1).1, ← (cd6 _).1]; exact (G5 e he).2.2.1
  · rw [(Grw.cd g5.1 g59 (G6 e he).1).1, ← (cd6 _).1]; exact (G6 e he).2.2.1
  · rw [(Grw.cd g5.1 g59 (G5 e he).1).2, ← (cd6 _).2]; exact (G5 e he).2.2.2
  · rw [(Grw.cd g5.1 g59 (G6 e he).1).2, ← (cd6 _).2]; exact (G6 e he).2.2.2
end CASK4
