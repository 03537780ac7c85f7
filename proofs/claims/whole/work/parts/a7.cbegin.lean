/-! A FACE'S NODES AS THEY ARE -/
theorem sb_id {κ α β γ : Nat → Int32} {E N : Nat} {st : Nat → Nat} (hS : Store κ α β γ E N) (hN : N < 2 ^ 31) (hE : E ≤ 16) (hst : ∀ m e, m < N → κ m = 3 ∨ κ m = 4 → α m = nI e → e < E → st e = cd κ α β γ m) : ∀ n, n < N → sb κ α β γ st (pr 2 0) n = cd κ α β γ n := by
  have rOk := hS.2.1
  intro n
  induction n using Nat.strongRecOn with
  | ind n ih =>
    intro hn
    rcases cd_row rOk hN hE hn with ⟨h0, k, -, ec⟩ | ⟨h0, a, ha, k, ea, ec⟩ | ⟨h0, a, ha, k, ea, ec⟩ | ⟨h0, x, g, hx, hg, k, ex, ey, eg, wx, ec⟩ | ⟨h0, x, y, g, hx, hy, hg, k, ex, ey, eg, wx, wy, ec⟩ | ⟨h0, x, y, hx, hy, k, ex, ey, ez, wx, wy, ec⟩ | ⟨h0, x, x2, hx, k, ex, ey, ez, nx, wx, ec⟩ | ⟨h0, x, y, x2, hx, hy, k, ex, ey, ez, wx, wy, ec⟩ | ⟨h0, x, y, z, x2, hx, hy, hz, ne, k, ex, ey, ez, wx, we, ec⟩
    · by_cases n2 : n = 2
      · subst n2
        rw [sb_2 (by rw [k]; rfl), ec]
      · rw [sb_c (by omega) k, ec]
    · rw [sb_e (by omega) (Or.inl k) ea, hst n a hn (Or.inl k) ea ha]
    · rw [sb_e (by omega) (Or.inr k) ea, hst n a hn (Or.inr k) ea ha]
    · rw [sb_5a rOk hN hn hg hx k ex ey eg, ih x hx (by omega), ec]
    · rw [sb_5b rOk hN hn hg hx hy k ex ey eg, ih x hx (by omega), ih y hy (by omega), ec]
    · rw [sb_6 rOk hN hn (by omega) hy k ex ey, ih x (by omega) (by omega), ih y hy (by omega)]
      exact (mkE_row hS hN hE (by omega) (by omega) hn (by omega) k (by rw [Nat.min_eq_left (by omega)]; exact ex) (by rw [Nat.max_eq_right (by omega)]; exact ey)).symm
    · rw [sb_7 rOk hN hn hx k ex, ih x hx (by omega)]
      exact (mkN_row hS hN hE (by omega) hn x2 nx k ex).symm
    · rw [sb_8 rOk hN hn (by omega) hy k ex ey, ih x (by omega) (by omega), ih y hy (by omega)]
      exact (mkB_row hS hN hE (by omega) (by omega) hn (by omega) x2 (by omega) k (by rw [Nat.min_eq_left (by omega)]; exact ex) (by rw [Nat.max_eq_right (by omega)]; exact ey)).symm
    · rw [sb_9 rOk hN hn hx hy hz k ex ey ez, ih x hx (by omega), ih y hy (by omega), ih z hz (by omega)]
      exact (mkC_row hS hN hE (by omega) (by omega) (by omega) hn ne x2 k ex ey ez).symm
/-! THE CLASS'S QUESTION BEGINS -/
def st0C (eS : Nat → Bool) (e : Nat) : Nat := if eS e = true then cW e else cU e
def kEl (eS : Nat → Bool) (e : Nat) : Int32 := if eS e = true then 3 else 4
/-- the work store's elements: node 3 + e is element e -/
def ElW (w : Nat) (S : qS) (E : Nat) (eS : Nat → Bool) : Prop := ∀ e, e < E → rwI (S.1 w) (kEl eS e) (nI e) (-1) (-1) (3 + e)
section CBEGIN
variable {O : qOb9} {x c u p f w q s l n E N I : Nat} {S : qS} {eS : Nat → Bool}
theorem ElW_cd {M e : Nat} (hE : E ≤ 16) (hC : CS O w 5732 2048 S E M) (h : ElW w S E eS) (he : e < E) (hM : 3 + e < M) : cCd S w (3 + e) = st0C eS e ∧ cWd S w (3 + e) = eS e := by
  obtain ⟨r0, r1, r2, r3⟩ := h e he
  obtain ⟨hM31, _⟩ := CS_big hC
  unfold kEl at r0
  unfold st0C
  cases z : eS e with
  | true =>
    rw [z, if_pos rfl] at r0
    obtain ⟨_, a, ha, _, ea, ec⟩ := row_3 hC.2.2.2.1.2.1 hM31 hE hM r0
    have := (nI_eq (by omega) (by omega)).mp (r1.symm.trans ea)
    subst this
    refine ⟨by rw [if_pos rfl]; exact ec, ?_⟩
    show wd _ _ _ = true
    rw [wd_n9 (by rw [r0]; decide), r0]; rfl
  | false =>
    rw [z, if_neg (by decide)] at r0
    obtain ⟨_, a, ha, _, ea, ec⟩ := row_4 hC.2.2.2.1.2.1 hM31 hE hM r0
    have := (nI_eq (by omega) (by omega)).mp (r1.symm.trans ea)
    subst this
    refine ⟨by rw [if_neg (by decide)]; exact ec, ?_⟩
    show wd _ _ _ = false
    rw [wd_n9 (by rw [r0]; decide), r0]; rfl
theorem cls_begin_16 (hO : ClO O x c u p f w q s l) (hn : 7000 ≤ n) (hI : CoI O c f E N I S eS) :
    ∀ (d e fu : Nat) (T : qS), e + d = E → d < fu → onl (fun o => o = w ∨ o = p ∨ o = q) S T → CS O w 5732 2048 T E (3 + e) → (∀ a, a < e → rwI (T.1 w) (kEl eS a) (nI a) (-1) (-1) (3 + a)) → (∀ m, m < 3 → rwI (T.1 w) (nI m) (-1) (-1) (-1) m) → (∀ a, a < e → T.1 p 5 a = nI (3 + a) ∧ T.1 p 6 a = nI (3 + a)) →
      ∃ T' fu', onl (fun o => o = w ∨ o = p ∨ o = q) S T' ∧ (T'.1 q = T.1 q ∧ ∀ j, j ≠ 5 → j ≠ 6 → T'.1 p j = T.1 p j) ∧ CS O w 5732 2048 T' E (3 + E) ∧ ElW w T' E eS ∧ (∀ m, m < 3 → rwI (T'.1 w) (nI m) (-1) (-1) (-1) m) ∧ (∀ a, a < E → T'.1 p 5 a = nI (3 + a) ∧ T'.1 p 6 a = nI (3 + a)) ∧ G_XProver_begin_16 O n fu p c (nI e) T = G_XProver_begin_16 O n (fu' + 1) p c (nI E) T' := by
  have hO' := hO
  obtain ⟨⟨h1, h2, h3, h4, h5, h6, h7⟩, ⟨o1, o2, o3, o4, o5, o6, o7, o8, o9, o10, o11⟩, ⟨n1, n2, n3⟩, ⟨l1, l2, l3, l4, l5, l6⟩, ⟨p3, p4, p5, p6⟩, _⟩ := hO
  have NE := fun _ : Unit => ClO_ne hO'
  have hI' := hI
  obtain ⟨cF', hE, e6, i1, i2, i3, i4, i5, i6, i7⟩ := hI
  have hN300 := cF'.2.2.1
  have hN31 := (CS_big cF').1
  intro d
  induction d with
  | zero =>
    intro e fu T ee hf hT hC hr hr3 hp
    obtain ⟨fu, rfl⟩ : ∃ q, fu = q + 1 := ⟨fu - 1, by omega⟩
    have e0 : e = E := by omega
    subst e0
    exact ⟨T, fu, hT, ⟨rfl, fun _ _ _ => rfl⟩, hC, hr, hr3, hp, rfl⟩
  | succ d ih =>
    intro e fu T ee hf hT hC hr hr3 hp
    obtain ⟨fu, rfl⟩ : ∃ q, fu = q + 1 := ⟨fu - 1, by omega⟩
    have ec : T.1 c = S.1 c := (hT c (by rintro (z | z | z); exact (NE ()).1.2.1 z; exact (NE ()).1.1 z; exact (NE ()).1.2.2.2.1 z)).1
    have ef : T.1 f = S.1 f := (hT f (by rintro (z | z | z); exact (NE ()).2.2.1.2.2.2.2 z.symm; exact (NE ()).2.1.2.1 z.symm; exact (NE ()).2.2.2.1.1 z)).1
    have cFT : CS O f 300 256 T E N := by unfold CS at cF' ⊢; rw [ef]; exact cF'
    obtain ⟨m, hm, em, hk, am, ws⟩ := i1 e (by omega)
    have e1 : e < oN O c 1 := by rw [l1]; omega
    have ep5 : e < oN O p 5 := by rw [p5]; omega
    have ep6 : e < oN O p 6 := by rw [p6]; omega
    have hwm : cWd T f m = eS e := by
      show wd _ _ _ = _
      rw [ef, wd_n9 (by rcases hk with z | z <;> rw [z] <;> decide)]
      rcases hk with z | z
      · rw [z, ws.mp z]; rfl
      · rw [z]
        cases y : eS e with
        | false => rfl
        | true => have := ws.mpr y; rw [z] at this; exact absurd this (by decide)
    -- the element's node
    have hrows : ∀ m', m' < 3 + e → ¬ T.1 w 1 m' = nI e := fun m' hm' ea => by
      by_cases z : m' < 3
      · rw [(hr3 m' z).2.1] at ea
        have := nI_pos (n := e) (by omega)
        rw [← ea] at this
        exact this (by decide)
      · have := (hr (m' - 3) (by omega)).2.1
        rw [show 3 + (m' - 3) = m' by omega, ea] at this
        have := (nI_eq (by omega) (by omega)).mp this
        omega
    have mk : ∃ T1, G_XNodes_makeElement O n w (kEl eS e) (nI e) T = some (nI (3 + e), T1) ∧ CS O w 5732 2048 T1 E (3 + (e + 1)) ∧ rOnly w T T1 ∧ (∀ j i, j ≤ 4 → i < 3 + e → T1.1 w j i = T.1 w j i) ∧ rwI (T1.1 w) (kEl eS e) (nI e) (-1) (-1) (3 + e) := by
      have k34 : kEl eS e = 3 ∨ kEl eS e = 4 := by
        unfold kEl
        cases eS e
        · right; rfl
        · left; rfl
      obtain ⟨v, M', T1, q1, q2, q3, q4, q5, q6, q7, q8, q9⟩ := cls_put (O := O) (n := n) (k := kEl eS e) (x := nI e) (y := -1) (z := -1) hn hE hC (by omega) (fun _ κ α β γ ag a1 a2 a3 a4 => Or.inr ⟨by omega, Or.inl ⟨by rw [a1]; exact k34, ⟨e, by omega, a2⟩, a3, a4⟩⟩) (fun z => by rcases k34 with y | y <;> rw [y] at z <;> exact absurd z (by decide))
      have hv : v = 3 + e ∧ M' = 3 + e + 1 := by
        by_cases z : v < 3 + e
        · exfalso
          have := q8.2.1
          rw [q7 1 v (by omega) z] at this
          exact hrows v z this
        · omega
      obtain ⟨hv1, hv2⟩ := hv
      subst hv1; subst hv2
      refine ⟨T1, ?_, q5, q6, q7, q8⟩
      unfold G_XNodes_makeElement
      rw [uk (ci := 3) n2.1, q1, yC_some]
    obtain ⟨T1, t1, t2, t3, t4, t5⟩ := mk
    have tp : T1.1 p = T.1 p := t3.2 p (NE ()).2.1.1
    have g45 : G_XProver_begin_45 O n (G_XProver_begin_16 O n fu) p c (nI e) (kEl eS e) T = G_XProver_begin_16 O n fu p c (nI (e + 1)) (up3 (up3 T1.1 p 5 e (nI (3 + e)), T1.2).1 p 6 e (nI (3 + e)), (up3 T1.1 p 5 e (nI (3 + e)), T1.2).2) := by
      unfold G_XProver_begin_45
      rw [uA (ci := 6) h4 (by decide), uO (ci := 6) h4 (by decide), o5, uk (ci := 3) n2.1, t1, yC_some, uw (ci := 6) h4 (by decide) ep5 (by omega), uA (ci := 6) h4 (by decide), uA (ci := 6) h4 (by decide), ul (ci := 6) h4 (by decide) ep5 (by omega), up3_v, uw (ci := 6) h4 (by decide) ep6 (by omega), hB_eq, nI_1]
    have b16 : G_XProver_begin_16 O n (fu + 1) p c (nI e) T = G_XProver_begin_45 O n (G_XProver_begin_16 O n fu) p c (nI e) (kEl eS e) T := by
      rw [G_XProver_begin_16, uI (ci := 2) h2 (by decide), ec, e6, if_neg (nI_ge (by omega) (by omega)), uO (ci := 2) h2 (by decide), o4, uA (ci := 2) h2 (by decide), ul (ci := 2) h2 (by decide) e1 (by omega), ec, em, uk (ci := 3) n1.1, cls_isWord cFT, yC_some, inN_nI hN31 hm, nI_clamp (by omega), hwm, Bool.true_and]
      unfold kEl
      cases eS e
      · rw [if_pos (by decide)]; rfl
      · rw [if_neg (by decide)]; rfl
    rw [b16, g45]
    have tw : ((up3 (up3 T1.1 p 5 e (nI (3 + e)), T1.2).1 p 6 e (nI (3 + e)), (up3 T1.1 p 5 e (nI (3 + e)), T1.2).2) : qS).1 w = T1.1 w := by rw [up3_q (fun z => (NE ()).2.1.1 z.symm), up3_q (fun z => (NE ()).2.1.1 z.symm)]
    have tq : ((up3 (up3 T1.1 p 5 e (nI (3 + e)), T1.2).1 p 6 e (nI (3 + e)), (up3 T1.1 p 5 e (nI (3 + e)), T1.2).2) : qS).1 q = T.1 q := by rw [up3_q (fun z => (NE ()).2.1.2.2.1 z.symm), up3_q (fun z => (NE ()).2.1.2.2.1 z.symm), t3.2 q (fun z => (NE ()).2.2.1.1 z.symm)]
    have tp5 : ∀ a, a < e + 1 → ((up3 (up3 T1.1 p 5 e (nI (3 + e)), T1.2).1 p 6 e (nI (3 + e)), (up3 T1.1 p 5 e (nI (3 + e)), T1.2).2) : qS).1 p 5 a = nI (3 + a) ∧ ((up3 (up3 T1.1 p 5 e (nI (3 + e)), T1.2).1 p 6 e (nI (3 + e)), (up3 T1.1 p 5 e (nI (3 + e)), T1.2).2) : qS).1 p 6 a = nI (3 + a) := fun a ha => by
      by_cases z : a = e
      · subst z
        rw [up3_f (by decide), up3_v, up3_v]
        exact ⟨rfl, rfl⟩
      · rw [up3_f (by decide), up3_o z, up3_o z, up3_f (by decide), tp]
        exact hp a (by omega)
    have tpj : ∀ j, j ≠ 5 → j ≠ 6 → ((up3 (up3 T1.1 p 5 e (nI (3 + e)), T1.2).1 p 6 e (nI (3 + e)), (up3 T1.1 p 5 e (nI (3 + e)), T1.2).2) : qS).1 p j = T.1 p j := fun j j5 j6 => by rw [up3_f j6, up3_f j5, tp]
    have onT : onl (fun o => o = w ∨ o = p ∨ o = q) S (up3 (up3 T1.1 p 5 e (nI (3 + e)), T1.2).1 p 6 e (nI (3 + e)), (up3 T1.1 p 5 e (nI (3 + e)), T1.2).2) := (hT.trans (onl.of t3 (Or.inl rfl))).trans ((onl.up (Or.inr (Or.inl rfl))).trans (onl.up (Or.inr (Or.inl rfl))))
    generalize ((up3 (up3 T1.1 p 5 e (nI (3 + e)), T1.2).1 p 6 e (nI (3 + e)), (up3 T1.1 p 5 e (nI (3 + e)), T1.2).2) : qS) = T2 at tw tq tp5 tpj onT ⊢
    obtain ⟨T', fu', y1, y2, y3, y4, y5, y6, y7⟩ := ih (e + 1) fu T2 (by omega) (by omega) onT (by unfold CS at t2 ⊢; rw [tw]; exact t2) (fun a ha => by
      rw [tw]
      by_cases z : a = e
      · subst z; exact t5
      · obtain ⟨k0, k1, k2, k3⟩ := hr a (by omega)
        exact ⟨by rw [t4 0 _ (by omega) (by omega)]; exact k0, by rw [t4 1 _ (by omega) (by omega)]; exact k1, by rw [t4 2 _ (by omega) (by omega)]; exact k2, by rw [t4 3 _ (by omega) (by omega)]; exact k3⟩) (fun m hm => by
      rw [tw]
      obtain ⟨k0, k1, k2, k3⟩ := hr3 m hm
      exact ⟨by rw [t4 0 _ (by omega) (by omega)]; exact k0, by rw [t4 1 _ (by omega) (by omega)]; exact k1, by rw [t4 2 _ (by omega) (by omega)]; exact k2, by rw [t4 3 _ (by omega) (by omega)]; exact k3⟩) tp5
    exact ⟨T', fu', y1, ⟨by rw [y2.1, tq], fun j j5 j6 => by rw [y2.2 j j5 j6, tpj j j5 j6]⟩, y3, y4, y5, y6, y7⟩
end CBEGIN
