/-! THE CLASS TELLS -/
section TELL
variable {O : qOb9} {x c u p f w q s l n E M nw na nt I Kc : Nat} {S S3 : qS} {lam : Nat → Nat} {eS : Nat → Bool}
theorem el_node (hE : E ≤ 16) (hC : CS O w 5732 2048 S E M) (hEl : ElW w S E eS) (hhi : 3 + E ≤ M ∧ ∀ m, 3 + E ≤ m → m < M → ¬ S.1 w 0 m ≤ 4) {m : Nat} (hm : m < M) (hk : S.1 w 0 m = 3 ∨ S.1 w 0 m = 4) : ∃ a, a < E ∧ m = 3 + a ∧ S.1 w 1 m = nI a ∧ (S.1 w 0 m = 3 ↔ eS a = true) := by
  have hlt : m < 3 + E := Nat.lt_of_not_le fun z => hhi.2 m z hm (by rcases hk with y | y <;> rw [y] <;> decide)
  have hge : 3 ≤ m := Nat.le_of_not_lt fun z => by
    rw [lowK hC z (by omega)] at hk
    rcases hk with y | y
    · have := (nI_eq (a := m) (b := 3) (by omega) (by decide)).mp y; omega
    · have := (nI_eq (a := m) (b := 4) (by omega) (by decide)).mp y; omega
  obtain ⟨k1, k2, _⟩ := hEl (m - 3) (by omega)
  rw [show 3 + (m - 3) = m by omega] at k1 k2
  refine ⟨m - 3, by omega, by omega, k2, ?_⟩
  rw [k1]
  unfold kEl
  cases eS (m - 3) with
  | true => exact ⟨fun _ => rfl, fun _ => rfl⟩
  | false => exact ⟨fun z => absurd z (by decide), fun z => absurd z (by decide)⟩
theorem cls_tell (h : SX O x c u p f w q s l 0 16 M nw na nt I Kc (vS S3 p w q s M nw na nt I Kc) S3 lam) (hn : 7000 ≤ n) (hE : E ≤ 16) (hC : CS O w 5732 2048 S3 E M) (hEl : ElW w S3 E eS) (hhi : 3 + E ≤ M ∧ ∀ m, 3 + E ≤ m → m < M → ¬ S3.1 w 0 m ≤ 4) (h10 : S3.1 s 10 0 = nI nt) (hT : (S.1 w = S3.1 w ∧ S.1 q = S3.1 q) ∧ (∀ j, j ≠ 5 → j ≠ 9 → j ≠ 13 → j ≠ 14 → S.1 s j = S3.1 s j) ∧ True) {t0 e0 : Nat} {w0 : Nat → Nat} (ht : t0 < 64) (he : e0 < Kc) (h13 : S.1 s 13 0 = nI t0) (h14 : S.1 s 14 0 = nI e0) (h9 : ∀ i, i < nw → S.1 s 9 i = nI (w0 i)) :
    ∃ S', G_XSearch_tell O n s u S = some ((), S') ∧ rOnly u S S' ∧ S'.1 u 4 0 = S3.1 q 2 e0 ∧ (∀ j, j ≠ 0 → j ≠ 3 → j ≠ 4 → S'.1 u j = S.1 u j) ∧
      (∀ k m, k < nt → m < M → S3.1 s 3 k = nI m → (m = 2 → S'.1 u 3 0 = nI (bits nt t0 k)) ∧ ∀ a, a < E → m = 3 + a → S'.1 u 0 a = nI (bits nt t0 k)) ∧
      (∀ k a, k < nw → a < E → S3.1 s 4 k = nI (3 + a) → S'.1 u 0 a = nI (w0 k)) ∧
      (∀ a, a < E → S3.1 p 3 (3 + a) = 0 → S'.1 u 0 a = S.1 u 0 a) ∧ (S3.1 p 3 2 = 0 → S'.1 u 3 0 = S.1 u 3 0) := by
  have hO := h.hO
  have NE := fun _ : Unit => ClO_ne hO
  have hM := hC.2.2.1
  have hM31 := (CS_big hC).1
  have hR := h.hR
  have l7 := hR.2.2.2.1
  have nt6 := hR.2.2.2.2.1
  obtain ⟨⟨h1, h2, h3, h4, h5, h6, h7⟩, ⟨o1, o2, o3, o4, o5, o6, o7, o8, o9, o10, o11⟩, ⟨n1, n2, n3⟩, ⟨l1, l2, l3, l4, l5, l6⟩, _, ⟨ql0, ql1, ql2⟩, ⟨s3, s4, s5, s6, s7, s8, s9⟩, _⟩ := hO
  obtain ⟨r23, r24, r25, r7, r6, rW, rWa, rWo, rT, rTa, rTo, rWi⟩ := hR
  rw [v26] at rW rWa rWo rWi
  rw [v28] at rT rTa rTo
  rw [v3] at rW rWa rT rTa rTo
  -- listed nodes
  have tr : ∀ k, k < nt → ∃ m, m < M ∧ S3.1 s 3 k = nI m ∧ ¬ S3.1 p 3 m = 0 ∧ ((∃ a, a < E ∧ m = 3 + a ∧ S3.1 w 1 m = nI a ∧ S3.1 w 0 m = 4) ∨ m = 2) := fun k hk => by
    obtain ⟨m, hm, em, dm, hc⟩ := rT k hk
    have hd : ¬ m = 0 → ¬ S3.1 p 3 m = 0 := fun z => (vMk.mp dm).elim (fun y => absurd y z) id
    rcases hc with k4 | ⟨m2, _⟩
    · obtain ⟨a, ha, e1, e2, _⟩ := el_node hE hC hEl hhi hm (Or.inr k4)
      exact ⟨m, hm, em, hd (by omega), Or.inl ⟨a, ha, e1, e2, k4⟩⟩
    · exact ⟨m, hm, em, hd (by omega), Or.inr m2⟩
  have tuq : ∀ k k' m, k < nt → k' < nt → m < M → S3.1 s 3 k = nI m → S3.1 s 3 k' = nI m → k = k' := fun k k' m hk hk' hm e1 e2 => by
    rcases Nat.lt_trichotomy k k' with z | z | z
    · obtain ⟨z1, z2⟩ := rTo k k' m m z hk' e1 e2 hm hm
      exact absurd (z2 z1) (Nat.lt_irrefl m)
    · exact z
    · obtain ⟨z1, z2⟩ := rTo k' k m m z hk e2 e1 hm hm
      exact absurd (z2 z1) (Nat.lt_irrefl m)
  have wr : ∀ k, k < nw → ∃ a, a < E ∧ S3.1 s 4 k = nI (3 + a) ∧ ¬ S3.1 p 3 (3 + a) = 0 ∧ S3.1 w 1 (3 + a) = nI a ∧ S3.1 w 0 (3 + a) = 3 := fun k hk => by
    obtain ⟨m, hm, em, dm, k3, _⟩ := rW k (by omega)
    obtain ⟨a, ha, e1, e2, _⟩ := el_node hE hC hEl hhi hm (Or.inl (k3 hk))
    subst e1
    exact ⟨a, ha, em, (vMk.mp dm).elim (fun y => by omega) id, e2, k3 hk⟩
  -- the words' loop
  have loopW : ∀ (d i fu : Nat) (T : qS), i + d = nw → d < fu → rOnly u S T → (∀ k a, k < i → a < E → S3.1 s 4 k = nI (3 + a) → T.1 u 0 a = nI (w0 k)) → ∃ T', G_XSearch_tell_98 O n fu s u (nI i) T = some ((), T') ∧ rOnly u T T' ∧ (∀ j, j ≠ 0 → T'.1 u j = T.1 u j) ∧ (∀ k a, k < nw → a < E → S3.1 s 4 k = nI (3 + a) → T'.1 u 0 a = nI (w0 k)) ∧ (∀ a, (∀ k, i ≤ k → k < nw → ¬ S3.1 s 4 k = nI (3 + a)) → T'.1 u 0 a = T.1 u 0 a) := by
    intro d
    induction d with
    | zero =>
      intro i fu T e hf hT' hin
      obtain ⟨fu, rfl⟩ : ∃ q, fu = q + 1 := ⟨fu - 1, by omega⟩
      have ts : T.1 s = S.1 s := hT'.2 s (NE ()).2.2.2.2.2.2.1
      rw [G_XSearch_tell_98, uI (ci := 8) h6 (by decide), ts, hT.2.1 12 (by decide) (by decide) (by decide) (by decide), h.c12, if_pos (nI_le (by omega) (by omega))]
      exact ⟨T, rfl, rOnly.refl, fun _ _ => rfl, fun k a hk => hin k a (by omega), fun _ _ => rfl⟩
    | succ d ih =>
      intro i fu T e hf hT' hin
      obtain ⟨fu, rfl⟩ : ∃ q, fu = q + 1 := ⟨fu - 1, by omega⟩
      have ts : T.1 s = S.1 s := hT'.2 s (NE ()).2.2.2.2.2.2.1
      have tw : T.1 w = S3.1 w := by rw [hT'.2 w (NE ()).2.2.1.2.2.2.1, hT.1.1]
      obtain ⟨a, ha, ea, da, ia, ka⟩ := wr i (by omega)
      have i4 : i < oN O s 4 := by rw [s4]; omega
      have i9 : i < oN O s 9 := by rw [s9]; omega
      have aw : 3 + a < oN O w 1 := by rw [n2.2.1 1 (by omega)]; omega
      have a0 : a < oN O u 0 := by rw [l6]; omega
      rw [G_XSearch_tell_98, uI (ci := 8) h6 (by decide), ts, hT.2.1 12 (by decide) (by decide) (by decide) (by decide), h.c12, if_neg (nI_ge (by omega) (by omega)), uA (ci := 4) h3 (by decide), uO (ci := 8) h6 (by decide), o8, uA (ci := 3) n2.1 (by decide), uA (ci := 8) h6 (by decide), ul (ci := 8) h6 (by decide) i4 (by omega), ts, hT.2.1 4 (by decide) (by decide) (by decide) (by decide), ea, ul (ci := 3) n2.1 (by decide) aw (by omega), tw, ia, uA (ci := 8) h6 (by decide), ul (ci := 8) h6 (by decide) i9 (by omega), ts, h9 i (by omega), uw (ci := 4) h3 (by decide) a0 (by omega), hB_eq, nI_1]
      obtain ⟨T', t1, t2, t3, t4, t5⟩ := ih (i + 1) fu (up3 T.1 u 0 a (nI (w0 i)), T.2) (by omega) (by omega) (hT'.trans rOnly.up) (fun k b hk hb eb => by
        by_cases z : b = a
        · subst z
          by_cases y : k = i
          · rw [y]; exact up3_v
          · exact absurd (rWi k i (3 + b) (by omega) (by omega) (by omega) eb ea) y
        · rw [up3_o z]
          refine hin k b ?_ hb eb
          by_cases y : k = i
          · subst y
            have := (nI_eq (by omega) (by omega)).mp (ea.symm.trans eb)
            omega
          · omega)
      refine ⟨T', t1, rOnly.up.trans t2, fun j hj => by rw [t3 j hj, up3_f hj], t4, fun b hb => ?_⟩
      rw [t5 b (fun k h1 h2 => hb k (by omega) h2)]
      refine up3_o (fun z => ?_)
      subst z
      exact hb i (Nat.le_refl i) (by omega) ea
  -- the truths' loop
  have loopT : ∀ (d i fu : Nat) (T : qS), i + d = nt → d < fu → rOnly u S T → (∀ k m, k < i → m < M → S3.1 s 3 k = nI m → (m = 2 → T.1 u 3 0 = nI (bits nt t0 k)) ∧ ∀ a, a < E → m = 3 + a → T.1 u 0 a = nI (bits nt t0 k)) → (∀ a, a < E → (∀ k, k < i → ¬ S3.1 s 3 k = nI (3 + a)) → T.1 u 0 a = S.1 u 0 a) → ((∀ k, k < i → ¬ S3.1 s 3 k = nI 2) → T.1 u 3 0 = S.1 u 3 0) → ∃ T', rOnly u S T' ∧ (∀ j, j ≠ 0 → j ≠ 3 → T'.1 u j = T.1 u j) ∧ (∀ k m, k < nt → m < M → S3.1 s 3 k = nI m → (m = 2 → T'.1 u 3 0 = nI (bits nt t0 k)) ∧ ∀ a, a < E → m = 3 + a → T'.1 u 0 a = nI (bits nt t0 k)) ∧ (∀ a, a < E → (∀ k, k < nt → ¬ S3.1 s 3 k = nI (3 + a)) → T'.1 u 0 a = S.1 u 0 a) ∧ ((∀ k, k < nt → ¬ S3.1 s 3 k = nI 2) → T'.1 u 3 0 = S.1 u 3 0) ∧ G_XSearch_tell_28 O n fu s u (nI i) T = G_XSearch_tell_98 O n n s u (nI 0) T' := by
    intro d
    induction d with
    | zero =>
      intro i fu T e hf hT' hin hno hn2
      obtain ⟨fu, rfl⟩ : ∃ q, fu = q + 1 := ⟨fu - 1, by omega⟩
      have ts : T.1 s = S.1 s := hT'.2 s (NE ()).2.2.2.2.2.2.1
      have e0' : i = nt := by omega
      subst e0'
      refine ⟨T, hT', fun _ _ _ => rfl, hin, hno, hn2, ?_⟩
      rw [G_XSearch_tell_28, uI (ci := 8) h6 (by decide), ts, hT.2.1 10 (by decide) (by decide) (by decide) (by decide), h10, if_pos (nI_le (by omega) (by omega))]
      rfl
    | succ d ih =>
      intro i fu T e hf hT' hin hno hn2
      obtain ⟨fu, rfl⟩ : ∃ q, fu = q + 1 := ⟨fu - 1, by omega⟩
      have ts : T.1 s = S.1 s := hT'.2 s (NE ()).2.2.2.2.2.2.1
      have tw : T.1 w = S3.1 w := by rw [hT'.2 w (NE ()).2.2.1.2.2.2.1, hT.1.1]
      obtain ⟨m, hm, em, dm, hc⟩ := tr i (by omega)
      have i3 : i < oN O s 3 := by rw [s3]; omega
      obtain ⟨nt', ent⟩ : ∃ q, nt = q + 1 := ⟨nt - 1, by omega⟩
      have eb : nI nt - 1 - nI i = nI (nt - 1 - i) := by rw [ent, nI_pred, nI_sub (by omega)]; rfl
      rw [G_XSearch_tell_28, uI (ci := 8) h6 (by decide), ts, hT.2.1 10 (by decide) (by decide) (by decide) (by decide), h10, if_neg (nI_ge (by omega) (by omega)), uI (ci := 8) h6 (by decide), ts, h13, uI (ci := 8) h6 (by decide), ts, hT.2.1 10 (by decide) (by decide) (by decide) (by decide), h10, eb, bit_at (nt - 1 - i) (by omega) t0 ht, hB_eq, uA (ci := 8) h6 (by decide), ul (ci := 8) h6 (by decide) i3 (by omega), ts, hT.2.1 3 (by decide) (by decide) (by decide) (by decide), em]
      have bb : t0 / 2 ^ (nt - 1 - i) % 2 = bits nt t0 i := rfl
      rw [bb]
      rcases hc with ⟨a, ha, e1, e2, k4⟩ | m2
      · have a0 : a < oN O u 0 := by rw [l6]; omega
        have mw : m < oN O w 1 := by rw [n2.2.1 1 (by omega)]; omega
        rw [if_neg (show ¬ nI m = (2 : Int32) from fun z => by have := (nI_eq (a := m) (b := 2) (by omega) (by decide)).mp z; omega), uA (ci := 4) h3 (by decide), uO (ci := 8) h6 (by decide), o8, uA (ci := 3) n2.1 (by decide), uA (ci := 8) h6 (by decide), ul (ci := 8) h6 (by decide) i3 (by omega), ts, hT.2.1 3 (by decide) (by decide) (by decide) (by decide), em, ul (ci := 3) n2.1 (by decide) mw (by omega), tw, e2, uw (ci := 4) h3 (by decide) a0 (by omega)]
        unfold G_XSearch_tell_90
        rw [hB_eq, nI_1]
        obtain ⟨T', t1, t2, t3, t4, t5, t6⟩ := ih (i + 1) fu (up3 T.1 u 0 a (nI (bits nt t0 i)), T.2) (by omega) (by omega) (hT'.trans rOnly.up) (fun k m' hk hm' em' => by
          by_cases z : k = i
          · subst z
            have := (nI_eq (by omega) (by omega)).mp (em.symm.trans em')
            subst this
            refine ⟨fun z2 => by omega, fun b hb eb' => ?_⟩
            have : b = a := by omega
            subst this
            exact up3_v
          · obtain ⟨z1, z2⟩ := hin k m' (by omega) hm' em'
            refine ⟨fun y => by rw [up3_f (by decide)]; exact z1 y, fun b hb eb' => ?_⟩
            have : b ≠ a := fun y => by
              subst y
              exact z (tuq k i m' (by omega) (by omega) hm' em' (by rw [em, e1, eb']))
            rw [up3_o this]
            exact z2 b hb eb') (fun b hb hno' => by
          have : b ≠ a := fun y => by
            subst y
            exact hno' i (by omega) (by rw [em, e1])
          rw [up3_o this]
          exact hno b hb (fun k hk => hno' k (by omega))) (fun hno' => by
          rw [up3_f (by decide)]
          exact hn2 (fun k hk => hno' k (by omega)))
        exact ⟨T', t1, fun j j0 j3 => by rw [t2 j j0 j3, up3_f j0], t3, t4, t5, t6⟩
      · rw [if_pos (show nI m = (2 : Int32) by rw [m2]; rfl), uP (ci := 4) h3 (by decide)]
        unfold G_XSearch_tell_90
        rw [hB_eq, nI_1]
        obtain ⟨T', t1, t2, t3, t4, t5, t6⟩ := ih (i + 1) fu (up3 T.1 u 3 0 (nI (bits nt t0 i)), T.2) (by omega) (by omega) (hT'.trans rOnly.up) (fun k m' hk hm' em' => by
          by_cases z : k = i
          · subst z
            have := (nI_eq (by omega) (by omega)).mp (em.symm.trans em')
            subst this
            exact ⟨fun _ => up3_v, fun b hb eb' => by omega⟩
          · obtain ⟨z1, z2⟩ := hin k m' (by omega) hm' em'
            refine ⟨fun y => ?_, fun b hb eb' => by rw [up3_f (by decide)]; exact z2 b hb eb'⟩
            exact absurd (tuq k i m' (by omega) (by omega) hm' em' (by rw [em, y, m2])) z) (fun b hb hno' => by
          rw [up3_f (by decide)]
          exact hno b hb (fun k hk => hno' k (by omega))) (fun hno' => absurd (by rw [em, m2]) (hno' i (by omega)))
        exact ⟨T', t1, fun j j0 j3 => by rw [t2 j j0 j3, up3_f j3], t3, t4, t5, t6⟩
  have e02 : e0 < oN O q 2 := by rw [ql2]; have := h.hK; omega
  have hK := h.hK
  have sq : S.1 q = S3.1 q := hT.1.2
  have su : rOnly u S (up3 S.1 u 4 0 (S3.1 q 2 e0), S.2) := rOnly.up
  have k4' : ∀ j, j ≠ 4 → ((up3 S.1 u 4 0 (S3.1 q 2 e0), S.2) : qS).1 u j = S.1 u j := fun j hj => up3_f hj
  have v4' : ((up3 S.1 u 4 0 (S3.1 q 2 e0), S.2) : qS).1 u 4 0 = S3.1 q 2 e0 := up3_v
  unfold G_XSearch_tell
  rw [uI (ci := 8) h6 (by decide), h13, if_neg (show ¬ nI t0 = (64 : Int32) from fun z => by have := (nI_eq (a := t0) (b := 64) (by omega) (by decide)).mp z; omega), uO (ci := 8) h6 (by decide), o9, uA (ci := 7) h5 (by decide), uI (ci := 8) h6 (by decide), h14, ul (ci := 7) h5 (by decide) e02 (by omega), sq, uP (ci := 4) h3 (by decide)]
  generalize ((up3 S.1 u 4 0 (S3.1 q 2 e0), S.2) : qS) = T0 at su k4' v4'
  obtain ⟨T1, t1, t2, t3, t4, t5, t6⟩ := loopT nt 0 n T0 (by omega) (by omega) su (fun k m hk => absurd hk (Nat.not_lt_zero k)) (fun a _ _ => by rw [k4' 0 (by decide)]) (fun _ => by rw [k4' 3 (by decide)])
  rw [nI_0] at t6
  obtain ⟨T2, y1, y2, y3, y4, y5⟩ := loopW nw 0 n T1 (by omega) (by omega) t1 (fun k a hk => absurd hk (Nat.not_lt_zero k))
  refine ⟨T2, ?_, t1.trans y2, ?_, fun j j0 j3 j4 => ?_, fun k m hk hm em => ⟨fun z => ?_, fun a ha z => ?_⟩, fun k a hk ha ea => y4 k a hk ha ea, fun a ha hd => ?_, fun hd => ?_⟩
  · rw [t6]; exact y1
  · rw [y3 4 (by decide), t2 4 (by decide) (by decide)]; exact v4'
  · rw [y3 j j0, t2 j j0 j3, k4' j j4]
  · rw [y3 3 (by decide)]; exact (t3 k m hk hm em).1 z
  · rw [y5 a (fun k' h1' h2' e2 => ?_)]
    · exact (t3 k m hk hm em).2 a ha z
    · obtain ⟨b, hb, eb, _, _, kb⟩ := wr k' h2'
      have := (nI_eq (by omega) (by omega)).mp (e2.symm.trans eb)
      obtain ⟨m', hm', em', _, hc⟩ := tr k hk
      have e3 := (nI_eq (by omega) (by omega)).mp (em.symm.trans em')
      rcases hc with ⟨a', ha', e1', _, k4⟩ | m2
      · rw [← e3, z, show a = b by omega, kb] at k4
        exact absurd k4 (by decide)
      · omega
  · rw [y5 a (fun k' h1' h2' e2 => ?_), t4 a ha (fun k' hk' e2 => ?_)]
    · obtain ⟨m', hm', em', dm', _⟩ := tr k' hk'
      have := (nI_eq (by omega) (by omega)).mp (e2.symm.trans em')
      rw [← this] at dm'
      exact dm' hd
    · obtain ⟨b, hb, eb, db, _, _⟩ := wr k' h2'
      have := (nI_eq (by omega) (by omega)).mp (e2.symm.trans eb)
      rw [show b = a by omega] at db
      exact db hd
  · rw [y3 3 (by decide), t5 (fun k' hk' e2 => ?_)]
    obtain ⟨m', hm', em', dm', _⟩ := tr k' hk'
    have := (nI_eq (by omega) (by omega)).mp (e2.symm.trans em')
    rw [← this] at dm'
    exact dm' hd
end TELL
