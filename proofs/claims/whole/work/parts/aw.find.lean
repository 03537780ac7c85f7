/-! THE CLASS FINDS THE LEAST -/
theorem uTab {β : Type} {i : Nat} (hi : i < 6) {k : Int64 → Option β} : hT (nI i) k = k (qCol i) := by
  unfold hT
  rw [nI_clamp (by omega), if_pos ⟨nI_pos (by omega), hi⟩]
section FIND
variable {O : qOb9} {x c u p f w q s l n r E A nw na nt I Kc : Nat} {V S0 T : qS} {lam : Nat → Nat} {ν : Nat → Nat}
theorem cls_setTruths (h : SX O x c u p f w q s l r E A nw na nt I Kc V S0 lam) (hn : 7000 ≤ n) (h10 : S0.1 s 10 0 = nI nt) (h3' : ∀ k, k < nt → S0.1 s 3 k = V.1 r 28 k) (hT : TF s l S0 T) :
    ∃ T', G_XSearch_setTruths O n s T = some ((), T') ∧ TF s l S0 T' ∧ T'.1 = T.1 ∧ ∀ m, m < A → dpN V r m → (lam m < 0 ∨ (lam m = 0 ∧ V.1 r 3 m ≤ 5)) → PRm T' l m (wd (V.1 r 3) (V.1 r 5) m) (fun t => nv r V (nw + na) nt t ν m) := by
  have hA := h.hA
  have hO := h.hO
  have hPl := ClO_pl hO
  have hR := h.hR
  have hX := h.hX
  have A3 := hX.2.2.1.1
  obtain ⟨⟨h1, h2, h3, h4, h5, h6, h7⟩, ⟨o1, o2, o3, o4, o5, o6, o7, o8, o9, o10, o11⟩, _, _, _, _, ⟨s3, s4, s5, s6, s7, s8, s9⟩, _⟩ := hO
  obtain ⟨r23, r24, r25, r7, r6, rW, rWa, rWo, rT, rTa, rTo, rWi⟩ := hR
  have x1 : ∀ (F : Nat → Nat → Nat → Int64) (m : Nat) (v : Int64), up3 F l 1 m v l 1 m = v := fun F m v => if_pos ⟨rfl, rfl, rfl⟩
  have low : ∀ m, m < 3 → V.1 r 3 m = nI m := fun m hm => by
    rcases hX.2.2.1.2.1 m (by omega) with ⟨_, z, _⟩ | ⟨z, _⟩
    · exact z
    · omega
  -- a truth's node is none of the constants
  have not2 : ∀ k m, k < nt → m < A → V.1 r 28 k = nI m → ¬ m < 2 := fun k m hk hm em hlt => by
    obtain ⟨m', hm', em', _, hc⟩ := rT k hk
    have := (nI_eq (by omega) (by omega)).mp (em.symm.trans em')
    subst this
    rcases hc with z | ⟨z, _⟩
    · rw [low m (by omega)] at z
      have := (nI_eq (a := m) (b := 4) (by omega) (by decide)).mp z
      omega
    · omega
  have uq : ∀ k k' m, k < k' → k' < nt → m < A → V.1 r 28 k = nI m → V.1 r 28 k' = nI m → False := fun k k' m hk hk' hm e1 e2 => by
    obtain ⟨z1, z2⟩ := rTo k k' m m hk hk' e1 e2 hm hm
    exact absurd (z2 z1) (Nat.lt_irrefl m)
  have loop : ∀ (d i fu : Nat) (T' : qS), i + d = nt → d < fu → TF s l S0 T' → T'.1 = T.1 → PRm T' l 0 false (fun _ => 0) → PRm T' l 1 false (fun _ => 1) → (∀ k m, k < i → m < A → V.1 r 28 k = nI m → PRm T' l m false (fun t => bits nt t k)) → ∃ T2, G_XSearch_setTruths_22 O n fu s (nI i) T' = some ((), T2) ∧ TF s l S0 T2 ∧ T2.1 = T.1 ∧ PRm T2 l 0 false (fun _ => 0) ∧ PRm T2 l 1 false (fun _ => 1) ∧ ∀ k m, k < nt → m < A → V.1 r 28 k = nI m → PRm T2 l m false (fun t => bits nt t k) := by
    intro d
    induction d with
    | zero =>
      intro i fu T' e hf hT' eT p0 p1 hk
      obtain ⟨fu, rfl⟩ : ∃ q, fu = q + 1 := ⟨fu - 1, by omega⟩
      rw [G_XSearch_setTruths_22, uI (ci := 8) h6 (by decide), hT'.2.1 10 (by decide) (by decide) (by decide) (by decide), h10, if_pos (nI_le (by omega) (by omega))]
      exact ⟨T', rfl, hT', eT, p0, p1, fun k m hk' => hk k m (by omega)⟩
    | succ d ih =>
      intro i fu T' e hf hT' eT p0 p1 hk
      obtain ⟨fu, rfl⟩ : ∃ q, fu = q + 1 := ⟨fu - 1, by omega⟩
      obtain ⟨m, hm, em, dm, hc⟩ := rT i (by omega)
      have i3 : i < oN O s 3 := by rw [s3]; omega
      obtain ⟨nt', ent⟩ : ∃ q, nt = q + 1 := ⟨nt - 1, by omega⟩
      have eb : nI nt - 1 - nI i = nI (nt - 1 - i) := by rw [ent, nI_pred, nI_sub (by omega)]; rfl
      rw [G_XSearch_setTruths_22, uI (ci := 8) h6 (by decide), hT'.2.1 10 (by decide) (by decide) (by decide) (by decide), h10, if_neg (nI_ge (by omega) (by omega)), uO (ci := 8) h6 (by decide), o10, uA (ci := 8) h6 (by decide), ul (ci := 8) h6 (by decide) i3 (by omega), hT'.2.1 3 (by decide) (by decide) (by decide) (by decide), h3' i (by omega), em, uI (ci := 8) h6 (by decide), hT'.2.1 10 (by decide) (by decide) (by decide) (by decide), h10, eb, uTab (by omega), uk (ci := 5) h7, cls_setTruth hPl (by omega), yV_some, hB_eq, nI_1]
      have n2 := not2 i m (by omega) hm em
      have po : plO l m T' (T'.1, up3 T'.2 l 1 m (qCol (nt - 1 - i))) := plO.up
      refine ih (i + 1) fu _ (by omega) (by omega) (hT'.pl po) eT (PRm_same po (by omega) p0) (PRm_same po (by omega) p1) (fun k m' hk' hm' em' => ?_)
      by_cases z : k = i
      · subst z
        have := (nI_eq (by omega) (by omega)).mp (em.symm.trans em')
        subst this
        intro t ht
        rw [if_neg (by decide)]
        show b1 (bt (up3 T'.2 l 1 m (qCol (nt - 1 - k)) l 1 m) t) = bits nt t k
        rw [x1, bt_col (nt - 1 - k) (by omega) t ht]
        unfold bits
        by_cases y : t / 2 ^ (nt - 1 - k) % 2 = 1
        · rw [decide_eq_true y, y]; rfl
        · rw [decide_eq_false y, show t / 2 ^ (nt - 1 - k) % 2 = 0 by omega]; rfl
      · refine PRm_same po (fun y => ?_) (hk k m' (by omega) hm' em')
        subst y
        exact uq k i m' (by omega) (by omega) hm' em' em
  have po0 : plO l 0 T (T.1, up3 T.2 l 1 0 0) := plO.up
  have po1 : plO l 1 (T.1, up3 T.2 l 1 0 0) (T.1, up3 (up3 T.2 l 1 0 0) l 1 1 (-1)) := plO.up
  have z0 : PRm (T.1, up3 T.2 l 1 0 0) l 0 false (fun _ => 0) := fun t ht => by
    rw [if_neg (by decide)]
    show b1 (bt (up3 T.2 l 1 0 0 l 1 0) t) = 0
    rw [x1, bt_0]; rfl
  have z1 : PRm (T.1, up3 (up3 T.2 l 1 0 0) l 1 1 (-1)) l 1 false (fun _ => 1) := fun t ht => by
    rw [if_neg (by decide)]
    show b1 (bt (up3 (up3 T.2 l 1 0 0) l 1 1 (-1) l 1 1) t) = 1
    rw [x1, bt_m1 ht]; rfl
  obtain ⟨T2, y1, y2, y3, y4, y5, y6⟩ := loop nt 0 n _ (by omega) (by omega) ((hT.pl po0).pl po1) rfl (PRm_same po1 (by omega) z0) z1 (fun k m hk => absurd hk (Nat.not_lt_zero k))
  rw [nI_0] at y1
  refine ⟨T2, ?_, y2, y3, fun m hm hd hc => ?_⟩
  · unfold G_XSearch_setTruths
    rw [uO (ci := 8) h6 (by decide), o10, uk (ci := 5) h7, show (0 : Int32) = nI 0 from rfl, cls_setTruth hPl (by omega), yV_some, uO (ci := 8) h6 (by decide), o10, uk (ci := 5) h7, show (1 : Int32) = nI 1 from rfl, cls_setTruth hPl (by omega), yV_some]
    exact y1
  · rcases hc with z | ⟨zl, zk⟩
    · omega
    · rcases node_cases h.hE hX hm with a | a | a | ⟨k, _⟩ | ⟨k, _⟩ | ⟨k, _⟩ | ⟨k, _⟩
      · have wf : wd (V.1 r 3) (V.1 r 5) m = false := by
          rcases (show m = 0 ∨ m = 1 by omega) with e | e <;> subst e
          · rw [wd_n9 (by rw [low 0 (by omega)]; decide), low 0 (by omega)]; rfl
          · rw [wd_n9 (by rw [low 1 (by omega)]; decide), low 1 (by omega)]; rfl
        rw [wf]
        rcases (show m = 0 ∨ m = 1 by omega) with e | e <;> subst e
        · exact PRm_congr y4 (fun t _ => ((nv_lo (nt := nt) (t := t) (u := ν) h.hE hX).1).symm)
        · exact PRm_congr y5 (fun t _ => ((nv_lo (nt := nt) (t := t) (u := ν) h.hE hX).2).symm)
      · have wf : wd (V.1 r 3) (V.1 r 5) m = false := by
          rcases a with a | a <;> rw [wd_n9 (by rw [a]; decide), a] <;> rfl
        rw [wf]
        obtain ⟨k, hk, ek⟩ := rTa m hm hd a.symm
        exact PRm_congr (y6 k m hk hm ek) (fun t _ => (nv_t h.hE hX h.hR hk ek hm).symm)
      · exfalso
        have : ∃ k, k < nw + na ∧ V.1 r 26 k = nI m := by
          rcases a with a | a
          · obtain ⟨k, hk, ek⟩ := (rWa m hm hd).1 a
            exact ⟨k, by omega, ek⟩
          · obtain ⟨k, _, hk, ek⟩ := (rWa m hm hd).2 a
            exact ⟨k, hk, ek⟩
        obtain ⟨k, hk, ek⟩ := this
        have := h.hL.2.2.1 k m hk hm ek
        omega
      all_goals
        rw [k] at zk
        exact absurd zk (by decide)
end FIND
section FIND2
variable {O : qOb9} {x c u p f w q s l n E M I Kc : Nat} {S : qS}
theorem QX_same {S' : qS} (h : QX S p w q M I Kc) (hw : S'.1 w = S.1 w) (hp : S'.1 p = S.1 p) (hq : S'.1 q = S.1 q) : QX S' p w q M I Kc := by
  unfold QX cWd at h ⊢
  rw [hw, hp, hq]; exact h
theorem cls_findLeast (hX : PX O x c u p f w q s l E M S) (hn : 7000 ≤ n) (hQ : QX S p w q M I Kc) :
    ∃ S3 S' lam nw na nt B, G_XSearch_findLeast O n s (p, 3) S = some (bN (Option.isSome B), S') ∧ rOnly s S S3 ∧ SX O x c u p f w q s l 0 16 M nw na nt I Kc (vS S3 p w q s M nw na nt I Kc) S3 lam ∧ S3.1 s 10 0 = nI nt ∧ TF s l S3 S' ∧ BR s nw S' B ∧ BIv nw nt (FC q S3 0 (vS S3 p w q s M nw na nt I Kc) M (nw + na) nt I Kc) B (fun v => rgP tt1 v (nw + na)) := by
  have hO := hX.1
  have NE := fun _ : Unit => ClO_ne hO
  have hO' := hO
  obtain ⟨⟨h1, h2, h3, h4, h5, h6, h7⟩, _⟩ := hO
  unfold G_XSearch_findLeast
  rw [uP (ci := 8) h6 (by decide), uP (ci := 8) h6 (by decide)]
  have v13 : ((up3 (up3 S.1 s 13 0 64) s 14 0 0, S.2) : qS).1 s 13 0 = nI 64 := by
    show up3 (up3 S.1 s 13 0 64) s 14 0 0 s 13 0 = nI 64
    rw [up3_ne (fun z => absurd z.2 (by decide))]
    exact if_pos ⟨rfl, rfl, rfl⟩
  have v14 : ((up3 (up3 S.1 s 13 0 64) s 14 0 0, S.2) : qS).1 s 14 0 = nI 0 := if_pos ⟨rfl, rfl, rfl⟩
  have ro : rOnly s S (up3 (up3 S.1 s 13 0 64) s 14 0 0, S.2) := (rOnly.up (S := S)).trans rOnly.up
  generalize ((up3 (up3 S.1 s 13 0 64) s 14 0 0, S.2) : qS) = R0 at v13 v14 ro ⊢
  have rw' : R0.1 w = S.1 w := ro.2 w (NE ()).2.2.1.2.1
  have rp' : R0.1 p = S.1 p := ro.2 p (NE ()).2.1.2.2.2.1
  have rq' : R0.1 q = S.1 q := ro.2 q (NE ()).2.2.2.2.1.1
  obtain ⟨S1, S2, S3, lam, nw, na, nt, a1, a2, a3, a4, a5, a6⟩ := cls_ready (n := n) (PX_same hX rw' rp') hn (QX_same hQ rw' rp' rq')
  rw [uk (ci := 8) h6, a1, yV_some, uk (ci := 8) h6, a2, yV_some, uk (ci := 8) h6, a3, yV_some, uk (ci := 8) h6]
  have hR := a5.hR
  have nt6 := hR.2.2.2.2.1
  have l7 := hR.2.2.2.1
  have f13 : S3.1 s 13 0 = nI 64 := by rw [a4.2 13 (by omega)]; exact v13
  have f14 : S3.1 s 14 0 = nI 0 := by rw [a4.2 14 (by omega)]; exact v14
  have tf0 : TF s l S3 S3 := ⟨fun _ _ => rfl, fun _ _ _ _ _ => rfl, fun _ _ => rfl⟩
  obtain ⟨T1, b1, b2, b3, b4⟩ := cls_setTruths (n := n) (ν := fun _ => 0) a5 hn a6 (fun _ _ => rfl) tf0
  obtain ⟨T2, c1, c2, c3, c4⟩ := cls_reckonLevel (n := n) (v := 0) (ν := fun _ => 0) a5 hn (by omega) b2 b4
  have c3' : T2.1 = S3.1 := by rw [c3, b3]
  rw [b1, yV_some, uk (ci := 8) h6]
  rw [nI_0] at c1
  have pw : 2 ^ nt ≤ 64 := Nat.pow_le_pow_right (n := 2) (by omega) nt6
  rw [c1, yV_some, uI (ci := 8) h6 (by decide), c3', a6, shl_at nt (by omega), cls_below (by omega), yC_some, uk (ci := 8) h6]
  obtain ⟨y, ey, hy⟩ := cls_withInv (n := n) (st := below (2 ^ nt)) a5 hn (show 0 < 8 by omega) c2 c4
  rw [nI_0] at ey
  rw [ey, yC_some]
  have hy' : ∀ t, t < 64 → (bt y t = true ↔ t < 2 ^ nt ∧ ∀ k, k < I → lam (tN (S3.1 q 0 k)) = 0 → nv 0 (vS S3 p w q s M nw na nt I Kc) (nw + na) nt t (fun _ => 0) (tN (S3.1 q 0 k)) = 1) := fun t ht => by rw [hy t ht, bt_bel ht, decide_eq_true_iff]
  have b0 : BR s nw T2 none := Or.inl ⟨rfl, by rw [c3']; exact f13, by rw [c3']; exact f14⟩
  have bi0 : BIv nw nt (FC q S3 0 (vS S3 p w q s M nw na nt I Kc) M (nw + na) nt I Kc) none (fun _ => False) := ⟨fun _ _ _ z => (by cases z), fun _ _ _ _ z => z.elim⟩
  -- a state that is left out fails nothing
  have cov : ∀ t v e, t < 2 ^ nt → bt y t = false → FC q S3 0 (vS S3 p w q s M nw na nt I Kc) M (nw + na) nt I Kc t v e → leB nw none t v e := fun t v e ht hb hf => by
    exfalso
    have : bt y t = true := (hy' t (pow_nt nt6 ht)).mpr ⟨ht, fun k hk hl => by
      obtain ⟨m', hm', em', dm', _⟩ := a5.inv k hk
      have hM := a5.hA
      have tm' : tN (S3.1 q 0 k) = m' := by rw [em']; exact nI_clamp (by omega)
      have := hf.2.1 k hk
      rw [tm'] at this hl ⊢
      rw [← this]
      exact nv_congr a5 m' hm' dm' (fun i hi => by omega)⟩
    rw [this] at hb
    exact absurd hb (by decide)
  have fin : ∀ (T' : qS) (B : Bt), TF s l S3 T' → BR s nw T' B → G_XSearch_findLeast_63 O n s T' = some (bN (Option.isSome B), T') := fun T' B hT' hB => by
    unfold G_XSearch_findLeast_63 G_XSearch_findLeast_77
    rw [uI (ci := 8) h6 (by decide)]
    rcases hB with ⟨z1, z2, z3⟩ | ⟨t0, w0, e0, z1, z2, z3, z4, z5, z6⟩
    · rw [z2, if_pos (show nI 64 = (64 : Int32) from rfl), z1]; exact hz_bN (b := false)
    · rw [z4, if_neg (show ¬ nI t0 = (64 : Int32) from fun z => by have := (nI_eq (a := t0) (b := 64) (by omega) (by decide)).mp z; omega), z1]; exact hz_bN (b := true)
  by_cases z : y = 0
  · rw [if_pos ((lg_cmp_eq _ _).mpr z)]
    refine ⟨S3, T2, lam, nw, na, nt, none, fin T2 none c2 b0, ro.trans a4.1, a5, a6, c2, b0, BIv_iff (BIv_more bi0 (N := fun v => rgP tt1 v (nw + na)) (fun t v e ht _ hf => cov t v e ht (by rw [z]; exact bt_0 t) hf)) (fun v => ⟨fun y => y.elim False.elim id, Or.inr⟩)⟩
  · rw [if_neg (fun e => z ((lg_cmp_eq _ _).mp e)), uk (ci := 8) h6]
    obtain ⟨T3, B, d1, d2, d3, d4, d5, d6, d7⟩ := cls_give (n := n) a5 hn (nw + na) 0 8 (fun _ => 0) none y T2 (fun _ => False) (by omega) (by omega) c2 (fun i hi => absurd hi (Nat.not_lt_zero i)) c4 (fun i hi => absurd hi (Nat.not_lt_zero i)) b0 (fun t ht hb => by
      obtain ⟨k1, k2⟩ := (hy' t ht).mp hb
      exact ⟨k1, fun k hk hl => k2 k hk (by omega), fun i j _ _ hi => absurd hi (Nat.not_lt_zero i)⟩) bi0 (fun _ z => z.elim) (fun t v e ht hb _ hf => cov t v e ht hb hf) (fun _ _ _ _ _ _ e => (by cases e))
    have d1' : G_XSearch_giveNumbers O n 8 s 0 0 y T2 = some ((), T3) := d1
    rw [d1', yV_some]
    refine ⟨S3, T3, lam, nw, na, nt, B, fin T3 B d2 d5, ro.trans a4.1, a5, a6, d2, d5, BIv_iff d6 (fun v => ⟨?_, fun y => Or.inr ⟨y, fun i hi => absurd hi (Nat.not_lt_zero i)⟩⟩)⟩
    rintro (y | y)
    · exact y.elim
    · exact y.1
end FIND2
