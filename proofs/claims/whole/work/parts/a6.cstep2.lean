/-- what told nodes make of a state -/
def stpT (S : qS) (c f t fc : Nat) (st : Nat → Nat) (e : Nat) : Nat := if S.1 c t e = -1 then st e else fSb S f st fc (tN (S.1 c t e))
/-- the work store has grown from M to M' -/
def Grw (O : qOb9) (w E : Nat) (S S' : qS) (M M' : Nat) : Prop := CS O w 5732 2048 S' E M' ∧ M ≤ M' ∧ (∀ m, M ≤ m → m < M' → ¬ S'.1 w 0 m ≤ 4) ∧ ∀ j m, j ≤ 4 → m < M → S'.1 w j m = S.1 w j m
section CSTEP2
variable {O : qOb9} {x c u p f w q s l n E N I : Nat} {S : qS} {eS : Nat → Bool}
theorem Grw.refl {M : Nat} (h : CS O w 5732 2048 S E M) : Grw O w E S S M M := ⟨h, Nat.le_refl M, fun m h1 h2 => by omega, fun _ _ _ _ => rfl⟩
theorem Grw.trans {S1 S2 : qS} {M M1 M2 : Nat} (h1 : Grw O w E S S1 M M1) (h2 : Grw O w E S1 S2 M1 M2) : Grw O w E S S2 M M2 := by
  obtain ⟨a1, a2, a3, a4⟩ := h1
  obtain ⟨b1, b2, b3, b4⟩ := h2
  refine ⟨b1, by omega, fun m hm hm' => ?_, fun j m hj hm => ?_⟩
  · by_cases z : m < M1
    · rw [b4 0 m (by omega) z]; exact a3 m hm z
    · exact b3 m (by omega) hm'
  · rw [b4 j m hj (by omega), a4 j m hj hm]
theorem Grw.cd {S' : qS} {M M' : Nat} (hC : CS O w 5732 2048 S E M) (h : Grw O w E S S' M M') {m : Nat} (hm : m < M) : cCd S' w m = cCd S w m ∧ cWd S' w m = cWd S w m := ⟨CS_cd hC (fun j i hj hi => h.2.2.2 j i hj hi) hm, CS_wd hC (fun j i hj hi => h.2.2.2 j i hj hi) hm⟩
theorem StC_grow {S' : qS} {M M' j : Nat} {st : Nat → Nat} (hC : CS O w 5732 2048 S E M) (h : Grw O w E S S' M M') (hp : S'.1 p j = S.1 p j) (hs : StC S w p j E M st eS) : StC S' w p j E M' st eS := by
  intro e he
  obtain ⟨v, hv, ev, cv, wv⟩ := hs e he
  have hle := h.2.1
  obtain ⟨g1, g2⟩ := Grw.cd hC h hv
  exact ⟨v, by omega, by rw [hp]; exact ev, by rw [g1]; exact cv, by rw [g2]; exact wv⟩
/-- all face nodes made anew of a state: their images -/
theorem cls_images (hO : ClO O x c u p f w q s l) (hn : 7000 ≤ n) (hI : CoI O c f E N I S eS) {M : Nat} (hW : CS O w 5732 2048 S E M) (hroom : M + N ≤ 5735) {j : Nat} (hj : j = 5 ∨ j = 6) {st : Nat → Nat} (hst : StC S w p j E M st eS) {k : Nat} (hk : k < 3) :
    ∃ S1 S' M', G_XProver_putIn O n p c (p, j) (nI k) S = some ((), S1) ∧ G_XNodes_remakeAll O n w f (p, 4) S1 = some ((), S') ∧ onl (fun o => o = w ∨ o = p) S S' ∧ (∀ i, i ≠ 4 → S'.1 p i = S.1 p i) ∧ M' ≤ M + (N - 3) ∧ Grw O w E S S' M M' ∧ ∀ m, m < N → Img S' w f p S st (pr k 0) M' m := by
  obtain ⟨S1, e1, o1, p1, r1⟩ := cls_putIn (O := O) (n := n) hO hn hI hW hj hst hk
  have hO' := hO
  obtain ⟨⟨h1, h2, h3, h4, h5, h6, h7⟩, _, ⟨n1, n2, n3⟩, ⟨l1, l2, l3, l4, l5, l6⟩, ⟨p3, p4, p5, p6⟩, _⟩ := hO
  have NE := fun _ : Unit => ClO_ne hO'
  have tf : S1.1 f = S.1 f := (o1 f (fun e => (NE ()).2.1.2.1 e.symm)).1
  have tw : S1.1 w = S.1 w := (o1 w (fun e => (NE ()).2.1.1 e.symm)).1
  have cF1 : CS O f 300 256 S1 E N := by have := hI.1; unfold CS at this ⊢; rw [tf]; exact this
  have rm : RmO O w f p S1 E N := ⟨cF1, hI.2.1, h4, p4, fun e => (NE ()).2.2.1.2.2.2.2 e, fun e => (NE ()).2.1.1 e.symm, fun e => (NE ()).2.1.2.1 e.symm⟩
  obtain ⟨S', M', e2, r2⟩ := cls_remake_2 (O := O) (n := n) hn rm hroom N 0 n S1 M (by omega) (by have := hI.1.2.2.1; omega) r1
  rw [nI_0] at e2
  obtain ⟨x1, ⟨x2, x3, x4⟩, x5, x6, x7, x8⟩ := r2
  refine ⟨S1, S', M', e1, e2, (o1.mono (fun o ho => Or.inr ho)).trans x5, fun i hi => by rw [x6 i hi, p1 i hi], by omega, ⟨x1, x2, x4, fun j m hj hm => by rw [x7 j m hj hm, tw]⟩, fun m hm => ?_⟩
  obtain ⟨v, v1, v2, v3, v4⟩ := x8 m hm (Or.inl hm)
  refine ⟨v, v1, v2, ?_, ?_⟩
  · rw [v3]; unfold fSb; rw [tf]
  · rw [v4]; unfold cWd; rw [tf]
theorem cls_take (hO : ClO O x c u p f w q s l) (hn : 7000 ≤ n) (hI : CoI O c f E N I S eS) {t : Nat} (ht : t = 2 ∨ t = 3) {j : Nat} (hj : j = 5 ∨ j = 6) {S1 : qS} (h1c : S1.1 c = S.1 c) {g : Nat → Nat} (himg : ∀ m, m < N → S1.1 p 4 m = nI (g m)) :
    ∃ S', G_XProver_takeImages O n p c (c, t) (p, j) S1 = some ((), S') ∧ onl (fun o => o = p) S1 S' ∧ (∀ i, i ≠ j → S'.1 p i = S1.1 p i) ∧ ∀ e, e < E → S'.1 p j e = if S.1 c t e = -1 then S1.1 p j e else nI (g (tN (S.1 c t e))) := by
  have hO' := hO
  obtain ⟨⟨h1, h2, h3, h4, h5, h6, h7⟩, _, ⟨n1, n2, n3⟩, ⟨l1, l2, l3, l4, l5, l6⟩, ⟨p3, p4, p5, p6⟩, _⟩ := hO
  have NE := fun _ : Unit => ClO_ne hO'
  obtain ⟨cF', hE, e6, i1, i2, i3, i4, i5, i6, i7⟩ := hI
  have hN300 := cF'.2.2.1
  have lj : oN O p j = 16 := by rcases hj with q | q <;> rw [q]; exact p5; exact p6
  have lt' : oN O c t = 16 := by rcases ht with q | q <;> rw [q]; exact l2; exact l3
  have qj : Unit → qKd 6 j = 0 := fun _ => by rcases hj with q | q <;> rw [q] <;> decide
  have qt : Unit → qKd 2 t = 0 := fun _ => by rcases ht with q | q <;> rw [q] <;> decide
  have told : ∀ e, e < E → S.1 c t e = -1 ∨ ∃ m, m < N ∧ S.1 c t e = nI m := fun e he => by
    rcases ht with z | z
    · subst z
      rcases i3 e he with q | ⟨m, hm, em, _⟩
      · exact Or.inl q
      · exact Or.inr ⟨m, hm, em⟩
    · subst z
      rcases i4 e he with q | ⟨m, hm, em, _⟩
      · exact Or.inl q
      · exact Or.inr ⟨m, hm, em⟩
  have hj4 : 4 ≠ j := by omega
  have loop : ∀ (d e fu : Nat) (T : qS), e + d = E → d < fu → onl (fun o => o = p) S1 T → (∀ i, i ≠ j → T.1 p i = S1.1 p i) → ∃ T', G_XProver_takeImages_3 O n fu p c (c, t) (p, j) (nI e) T = some ((), T') ∧ onl (fun o => o = p) S1 T' ∧ (∀ i, i ≠ j → T'.1 p i = S1.1 p i) ∧ (∀ a, a < e → T'.1 p j a = T.1 p j a) ∧ ∀ a, e ≤ a → a < E → T'.1 p j a = if S.1 c t a = -1 then T.1 p j a else nI (g (tN (S.1 c t a))) := by
    intro d
    induction d with
    | zero =>
      intro e fu T ee hf hT hT2
      obtain ⟨fu, rfl⟩ : ∃ q, fu = q + 1 := ⟨fu - 1, by omega⟩
      have ec : T.1 c = S.1 c := by rw [(hT c (NE ()).1.1).1, h1c]
      rw [G_XProver_takeImages_3, uI (ci := 2) h2 (by decide), ec, e6, if_pos (nI_le (by omega) (by omega))]
      exact ⟨T, rfl, hT, hT2, fun _ _ => rfl, fun a h1 h2 => by omega⟩
    | succ d ih =>
      intro e fu T ee hf hT hT2
      obtain ⟨fu, rfl⟩ : ∃ q, fu = q + 1 := ⟨fu - 1, by omega⟩
      have ec : T.1 c = S.1 c := by rw [(hT c (NE ()).1.1).1, h1c]
      have et : e < oN O c t := by rw [lt']; omega
      have ej : e < oN O p j := by rw [lj]; omega
      rw [G_XProver_takeImages_3, uI (ci := 2) h2 (by decide), ec, e6, if_neg (nI_ge (by omega) (by omega)), ul (ci := 2) h2 (qt ()) et (by omega), ec]
      rcases told e (by omega) with z | ⟨m, hm, em⟩
      · rw [if_pos z]
        unfold G_XProver_takeImages_33
        rw [hB_eq, nI_1]
        obtain ⟨T', t1, t2, t3, t4, t5⟩ := ih (e + 1) fu T (by omega) (by omega) hT hT2
        refine ⟨T', t1, t2, t3, fun a ha => t4 a (by omega), fun a h1 h2 => ?_⟩
        by_cases y : a = e
        · subst y; rw [t4 a (by omega), if_pos z]
        · exact t5 a (by omega) h2
      · have z : ¬ S.1 c t e = -1 := by rw [em]; intro q; have := nI_pos (n := m) (by omega); rw [q] at this; exact this (by decide)
        have m4 : m < oN O p 4 := by rw [p4]; omega
        rw [if_neg z, uA (ci := 6) h4 (by decide), ul (ci := 2) h2 (qt ()) et (by omega), ec, em, ul (ci := 6) h4 (by decide) m4 (by omega), hT2 4 hj4, himg m hm, uw (ci := 6) h4 (qj ()) ej (by omega)]
        unfold G_XProver_takeImages_33
        rw [hB_eq, nI_1]
        obtain ⟨T', t1, t2, t3, t4, t5⟩ := ih (e + 1) fu (up3 T.1 p j e (nI (g m)), T.2) (by omega) (by omega) (hT.trans (onl.up rfl)) (fun i hi => by rw [up3_f hi]; exact hT2 i hi)
        refine ⟨T', t1, t2, t3, fun a ha => ?_, fun a h1 h2 => ?_⟩
        · rw [t4 a (by omega), up3_o (by omega)]
        · by_cases y : a = e
          · subst y
            rw [t4 a (by omega), up3_v, if_neg z, em]
            have : tN (nI m) = m := nI_clamp (by omega)
            rw [this]
          · rw [t5 a (by omega) h2, up3_o y]
  obtain ⟨T', t1, t2, t3, t4, t5⟩ := loop E 0 n S1 (by omega) (by omega) onl.refl (fun _ _ => rfl)
  rw [nI_0] at t1
  exact ⟨T', t1, t2, t3, fun e he => t5 e (Nat.zero_le e) he⟩
/-- a step, by told nodes t (2: next, 3: plain) -/
theorem cls_adv (hO : ClO O x c u p f w q s l) (hn : 7000 ≤ n) (hI : CoI O c f E N I S eS) {M : Nat} (hW : CS O w 5732 2048 S E M) (hroom : M + N ≤ 5735) {t : Nat} (ht : t = 2 ∨ t = 3) {j : Nat} (hj : j = 5 ∨ j = 6) {st : Nat → Nat} (hst : StC S w p j E M st eS) {k : Nat} (hk : k < 3) :
    ∃ S1 S2 S' M', G_XProver_putIn O n p c (p, j) (nI k) S = some ((), S1) ∧ G_XNodes_remakeAll O n w f (p, 4) S1 = some ((), S2) ∧ G_XProver_takeImages O n p c (c, t) (p, j) S2 = some ((), S') ∧ onl (fun o => o = w ∨ o = p) S S' ∧ (∀ i, i ≠ 4 → i ≠ j → S'.1 p i = S.1 p i) ∧ M' ≤ M + (N - 3) ∧ Grw O w E S S' M M' ∧ StC S' w p j E M' (stpT S c f t (pr k 0) st) eS := by
  obtain ⟨S1, S2, M', e1, e2, o2, p2, hM', g2, im⟩ := cls_images (O := O) (n := n) hO hn hI hW hroom hj hst hk
  have NE := fun _ : Unit => ClO_ne hO
  have h2c : S2.1 c = S.1 c := (o2 c (by rintro (z | z); exact (NE ()).1.2.1 z; exact (NE ()).1.1 z)).1
  have hN300 := hI.1.2.2.1
  -- the images, chosen
  have hg : ∀ m, m < N → S2.1 p 4 m = nI (tN (S2.1 p 4 m)) ∧ tN (S2.1 p 4 m) < M' ∧ cCd S2 w (tN (S2.1 p 4 m)) = fSb S f st (pr k 0) m ∧ cWd S2 w (tN (S2.1 p 4 m)) = cWd S f m := fun m hm => by
    obtain ⟨v, v1, v2, v3, v4⟩ := im m hm
    have hb := (CS_big g2.1).1
    have : tN (S2.1 p 4 m) = v := by rw [v2]; exact nI_clamp (by omega)
    rw [this]
    exact ⟨v2, v1, v3, v4⟩
  obtain ⟨S', e3, o3, p3, v3⟩ := cls_take (O := O) (n := n) hO hn hI ht hj h2c (g := fun m => tN (S2.1 p 4 m)) (fun m hm => (hg m hm).1)
  have tw : S'.1 w = S2.1 w := (o3 w (fun e => (NE ()).2.1.1 e.symm)).1
  have g3 : Grw O w E S S' M M' := by
    obtain ⟨a1, a2, a3, a4⟩ := g2
    refine ⟨?_, a2, fun m h1 h2 => by rw [tw]; exact a3 m h1 h2, fun j m h1 h2 => by rw [tw]; exact a4 j m h1 h2⟩
    unfold CS at a1 ⊢
    rw [tw]; exact a1
  refine ⟨S1, S2, S', M', e1, e2, e3, o2.trans (o3.mono (fun o ho => Or.inr ho)), fun i h4 hij => by rw [p3 i hij, p2 i h4], hM', g3, fun e he => ?_⟩
  have cde : ∀ v, cCd S' w v = cCd S2 w v ∧ cWd S' w v = cWd S2 w v := fun v => by unfold cCd cWd; rw [tw]; exact ⟨rfl, rfl⟩
  unfold stpT
  by_cases z : S.1 c t e = -1
  · rw [if_pos z]
    obtain ⟨v, hv, ev, cv, wv⟩ := hst e he
    have hle := g3.2.1
    obtain ⟨k1, k2⟩ := Grw.cd hW g3 hv
    refine ⟨v, by omega, ?_, by rw [k1]; exact cv, by rw [k2]; exact wv⟩
    rw [v3 e he, if_pos z, p2 j (by omega)]; exact ev
  · rw [if_neg z]
    have : ∃ m, m < N ∧ S.1 c t e = nI m ∧ cWd S f m = eS e := by
      rcases ht with y | y
      · subst y
        rcases hI.2.2.2.2.2.1 e he with q | q
        · exact absurd q z
        · exact q
      · subst y
        rcases hI.2.2.2.2.2.2.1 e he with q | ⟨m, hm, em, wm, _⟩
        · exact absurd q z
        · exact ⟨m, hm, em, wm⟩
    obtain ⟨m, hm, em, wm⟩ := this
    have tm : tN (S.1 c t e) = m := by rw [em]; exact nI_clamp (by omega)
    obtain ⟨y1, y2, y3, y4⟩ := hg m hm
    refine ⟨tN (S2.1 p 4 m), y2, ?_, ?_, ?_⟩
    · rw [v3 e he, if_neg z, tm]
    · rw [(cde _).1, y3, tm]
    · rw [(cde _).2, y4]; exact wm
theorem cls_step (hO : ClO O x c u p f w q s l) (hn : 7000 ≤ n) (hI : CoI O c f E N I S eS) {M : Nat} (hW : CS O w 5732 2048 S E M) (hroom : M + N ≤ 5735) {j : Nat} (hj : j = 5 ∨ j = 6) {st : Nat → Nat} (hst : StC S w p j E M st eS) {k : Nat} (hk : k < 3) :
    ∃ S' M', G_XProver_step O n p c (p, j) (nI k) S = some ((), S') ∧ onl (fun o => o = w ∨ o = p) S S' ∧ (∀ i, i ≠ 4 → i ≠ j → S'.1 p i = S.1 p i) ∧ M' ≤ M + (N - 3) ∧ Grw O w E S S' M M' ∧ StC S' w p j E M' (stpT S c f 2 (pr k 0) st) eS := by
  obtain ⟨S1, S2, S', M', e1, e2, e3, r1, r2, r3, r4, r5⟩ := cls_adv (O := O) (n := n) hO hn hI hW hroom (t := 2) (Or.inl rfl) hj hst hk
  obtain ⟨⟨h1, h2, h3, h4, h5, h6, h7⟩, ⟨o1, o2, o3, o4, o5, o6, o7, o8, o9, o10, o11⟩, ⟨n1, n2, n3⟩, _⟩ := hO
  refine ⟨S', M', ?_, r1, r2, r3, r4, r5⟩
  unfold G_XProver_step
  rw [uk (ci := 6) h4, e1, yV_some, uO (ci := 6) h4 (by decide), o5, uO (ci := 2) h2 (by decide), o4, uA (ci := 6) h4 (by decide), uk (ci := 3) n2.1, e2, yV_some, uA (ci := 2) h2 (by decide), uk (ci := 6) h4, e3, yV_some]
theorem cls_plainStep (hO : ClO O x c u p f w q s l) (hn : 7000 ≤ n) (hI : CoI O c f E N I S eS) {M : Nat} (hW : CS O w 5732 2048 S E M) (hroom : M + N ≤ 5735) {j : Nat} (hj : j = 5 ∨ j = 6) {st : Nat → Nat} (hst : StC S w p j E M st eS) :
    ∃ S' M', G_XProver_plainStep O n p c (p, j) S = some ((), S') ∧ onl (fun o => o = w ∨ o = p) S S' ∧ (∀ i, i ≠ 4 → i ≠ j → S'.1 p i = S.1 p i) ∧ M' ≤ M + (N - 3) ∧ Grw O w E S S' M M' ∧ StC S' w p j E M' (stpT S c f 3 (pr 0 0) st) eS := by
  obtain ⟨S1, S2, S', M', e1, e2, e3, r1, r2, r3, r4, r5⟩ := cls_adv (O := O) (n := n) hO hn hI hW hroom (t := 3) (Or.inr rfl) hj hst (k := 0) (by omega)
  obtain ⟨⟨h1, h2, h3, h4, h5, h6, h7⟩, ⟨o1, o2, o3, o4, o5, o6, o7, o8, o9, o10, o11⟩, ⟨n1, n2, n3⟩, _⟩ := hO
  refine ⟨S', M', ?_, r1, r2, r3, r4, r5⟩
  rw [nI_0] at e1
  unfold G_XProver_plainStep
  rw [uk (ci := 6) h4, e1, yV_some, uO (ci := 6) h4 (by decide), o5, uO (ci := 2) h2 (by decide), o4, uA (ci := 6) h4 (by decide), uk (ci := 3) n2.1, e2, yV_some, uA (ci := 2) h2 (by decide), uk (ci := 6) h4, e3, yV_some]
end CSTEP2
