/-! THE SEARCH IS READY -/
def lamF (κ lv : Nat → Int32) (m : Nat) : Nat := if m < 3 ∨ κ m = 4 then 0 else tN (lv m)
/-- the question: marked truths -/
def QX (S : qS) (p w q M I Kc : Nat) : Prop := (S.1 q 3 0 = nI I ∧ I ≤ 8 ∧ ∀ k, k < I → ∃ m, m < M ∧ S.1 q 0 k = nI m ∧ ¬ S.1 p 3 m = 0 ∧ cWd S w m = false) ∧ S.1 q 4 0 = nI Kc ∧ Kc ≤ 16 ∧ 1 ≤ Kc ∧ ∀ i, i < Kc → ∃ m, m < M ∧ S.1 q 1 i = nI m ∧ ¬ S.1 p 3 m = 0 ∧ cWd S w m = false
section READY
variable {O : qOb9} {x c u p f w q s l n E M I Kc : Nat} {S : qS}
theorem lowK (hC : CS O w 5732 2048 S E M) {m : Nat} (hm : m < 3) (hM : 3 ≤ M) : S.1 w 0 m = nI m := by
  rcases hC.2.2.2.1.2.1 m (by omega) with ⟨_, z, _⟩ | ⟨z, _⟩
  · exact z
  · omega
theorem cls_ready (hX : PX O x c u p f w q s l E M S) (hn : 7000 ≤ n) (hQ : QX S p w q M I Kc) :
    ∃ S1 S2 S3 lam nw na nt, G_XSearch_collect O n s (p, 3) S = some ((), S1) ∧ G_XSearch_setLevels O n s (p, 3) S1 = some ((), S2) ∧ G_XSearch_arrange O n s (p, 3) S2 = some ((), S3) ∧ rFr s S S3 (fun j => j ≠ 5 ∧ j ≠ 9 ∧ j ≠ 13 ∧ j ≠ 14) ∧ SX O x c u p f w q s l 0 16 M nw na nt I Kc (vS S3 p w q s M nw na nt I Kc) S3 lam ∧ S3.1 s 10 0 = nI nt := by
  have hX' := hX
  obtain ⟨hO, hE, hC, ⟨hM3, hlo, hhi⟩, h01, hcl, bW, bT⟩ := hX
  have NE := fun _ : Unit => ClO_ne hO
  have hM := hC.2.2.1
  have hM31 := (CS_big hC).1
  obtain ⟨S1, a1, a2, a3, a4, a5, a6, a7, a8⟩ := cls_collect (n := n) hX' hn
  have w1 : S1.1 w = S.1 w := a2.1.2 w (NE ()).2.2.1.2.1
  have p1' : S1.1 p = S.1 p := a2.1.2 p (NE ()).2.1.2.2.2.1
  have q1' : S1.1 q = S.1 q := a2.1.2 q (NE ()).2.2.2.2.1.1
  obtain ⟨S2, b1, b2, b3⟩ := cls_setLevels (n := n) (PX_same hX' w1 p1') hn
  have w2 : S2.1 w = S.1 w := by rw [b2.1.2 w (NE ()).2.2.1.2.1, w1]
  have p2' : S2.1 p = S.1 p := by rw [b2.1.2 p (NE ()).2.1.2.2.2.1, p1']
  have q2' : S2.1 q = S.1 q := by rw [b2.1.2 q (NE ()).2.2.2.2.1.1, q1']
  have lvp : ∀ m, m < M → ¬ S.1 p 3 m = 0 → LvP p w s S S2 m := fun m hm hd => by
    have := b3 m hm (by rw [p1']; exact hd)
    unfold LvP at this ⊢
    rw [w1, p1'] at this
    exact this
  have kLow : ∀ m, m < 3 → S.1 w 0 m ≤ 4 ∧ ¬ S.1 w 0 m = 3 := fun m hm => by
    rw [lowK hC hm (by omega)]
    exact ⟨nI_le (b := 4) (by omega) (by decide), fun z => by have := (nI_eq (a := m) (b := 3) (by omega) (by decide)).mp z; omega⟩
  have lamEq : ∀ m, m < M → ¬ S.1 p 3 m = 0 → S2.1 s 6 m = nI (lamF (S.1 w 0) (S2.1 s 6) m) ∧ lamF (S.1 w 0) (S2.1 s 6) m ≤ cnt (gW (S.1 w 0) (S.1 p 3)) (m + 1) := fun m hm hd => by
    obtain ⟨v, e1, e2, e3, e4, e5⟩ := lvp m hm hd
    unfold lamF
    by_cases z : m < 3 ∨ S.1 w 0 m = 4
    · rw [if_pos z, e1]
      have : v = 0 := by
        rcases z with z | z
        · exact e4 (kLow m z).1 (kLow m z).2
        · exact e4 (by rw [z]; decide) (by rw [z]; decide)
      rw [this]
      exact ⟨rfl, Nat.zero_le _⟩
    · have hv : v ≤ 7 := Nat.le_trans e2 (Nat.le_trans (cnt_mono (by omega)) bW)
      rw [if_neg z, e1, show tN (nI v) = v from nI_clamp (by omega)]
      exact ⟨rfl, e2⟩
  obtain ⟨S3, c1, c2, c3, c4⟩ := cls_arrange (n := n) (lv := lamF (S.1 w 0) (S2.1 s 6)) (PX_same hX' w2 p2') hn (fun m hm hg => by
    rw [w2, p2'] at hg
    obtain ⟨e1, e2⟩ := lamEq m hm (gC_iff.mp hg).1
    exact ⟨e1, Nat.le_trans e2 (Nat.le_trans (cnt_mono (by omega)) bW)⟩)
  rw [w2, p2'] at c3 c4
  have w3 : S3.1 w = S.1 w := by rw [c2.1.2 w (NE ()).2.2.1.2.1, w2]
  have p3' : S3.1 p = S.1 p := by rw [c2.1.2 p (NE ()).2.1.2.2.2.1, p2']
  have q3' : S3.1 q = S.1 q := by rw [c2.1.2 q (NE ()).2.2.2.2.1.1, q2']
  have s4' : S3.1 s 4 = S1.1 s 4 := by rw [c2.2 4 (by omega), b2.2 4 (by omega)]
  have s3' : S3.1 s 3 = S1.1 s 3 := by rw [c2.2 3 (by omega), b2.2 3 (by omega)]
  have s10' : S3.1 s 10 = S1.1 s 10 := by rw [c2.2 10 (by omega), b2.2 10 (by omega)]
  have s11' : S3.1 s 11 = S1.1 s 11 := by rw [c2.2 11 (by omega), b2.2 11 (by omega)]
  have s12' : S3.1 s 12 = S1.1 s 12 := by rw [c2.2 12 (by omega), b2.2 12 (by omega)]
  have s6' : S3.1 s 6 = S2.1 s 6 := c2.2 6 (by omega)
  have hX3 := PX_same hX' w3 p3'
  obtain ⟨r1, r2, r3⟩ := vRL (I := I) (Kc := Kc) (S := S3) hX3 (by rw [s4', w3, p3']; exact a6) (by rw [s3', w3, p3']; exact a7) (by rw [s3', w3, p3']; exact a8) rfl rfl rfl
  rw [w3, p3'] at r1 r2 r3
  refine ⟨S1, S2, S3, lamF (S.1 w 0) (S2.1 s 6), cnt (gP 3 (S.1 w 0) (S.1 p 3)) M, cnt (gP 5 (S.1 w 0) (S.1 p 3)) M, cnt (gP 4 (S.1 w 0) (S.1 p 3)) M + (if S.1 p 3 2 = 0 then 0 else 1), a1, b1, c1, ?_, ?_, by rw [s10']; exact a5⟩
  · exact (a2.mono (fun j hj => by omega)).trans ((b2.mono (fun j hj => by omega)).trans (c2.mono (fun j hj => by omega)))
  generalize hnw : cnt (gP 3 (S.1 w 0) (S.1 p 3)) M = nw at r1 r2 r3 ⊢
  generalize hna : cnt (gP 5 (S.1 w 0) (S.1 p 3)) M = na at r1 r2 r3 ⊢
  generalize hnt : cnt (gP 4 (S.1 w 0) (S.1 p 3)) M + (if S.1 p 3 2 = 0 then 0 else 1) = nt at r1 r2 r3 ⊢
  have mk : ∀ m, dpN (vS S3 p w q s M nw na nt I Kc) 0 m ↔ m = 0 ∨ ¬ S.1 p 3 m = 0 := fun m => by rw [vMk, p3']
  have vk : (vS S3 p w q s M nw na nt I Kc).1 0 3 = S.1 w 0 := by rw [v3, w3]
  have vpt : ∀ m b, isPt ((vS S3 p w q s M nw na nt I Kc).1 0 3) ((vS S3 p w q s M nw na nt I Kc).1 0 4) ((vS S3 p w q s M nw na nt I Kc).1 0 5) ((vS S3 p w q s M nw na nt I Kc).1 0 6) m b → isPt (S.1 w 0) (S.1 w 1) (S.1 w 2) (S.1 w 3) m b := fun m b hp => by
    rw [v3, v4, v5, v6, w3] at hp
    exact hp
  have lt : ∀ m b, m < M → b < M → isPt (S.1 w 0) (S.1 w 1) (S.1 w 2) (S.1 w 3) m b → b < m := fun m b hm hb hp => by
    obtain ⟨z1, z2, z3⟩ := rowOk_parts (hC.2.2.2.1.2.1 m hm) (by omega) hp.1
    have go : ∀ v : Int32, (v < 0 ∨ ∃ k, k < m ∧ v = nI k) → v = nI b → b < m := fun v hv ev => by
      rcases hv with y | ⟨k, hk, e⟩
      · rw [ev] at y; exact absurd y (nI_pos (by omega))
      · have := (nI_eq (by omega) (by omega)).mp (ev.symm.trans e)
        omega
    rcases hp.2 with y | y | ⟨y1, y2⟩
    · exact go _ z1 y
    · exact go _ z2 y
    · exact go _ (z3 y1) y2
  have lamLe : ∀ m, m < M → (m = 0 ∨ ¬ S.1 p 3 m = 0) → lamF (S.1 w 0) (S2.1 s 6) m ≤ cnt (gW (S.1 w 0) (S.1 p 3)) (m + 1) := fun m hm hd => by
    rcases hd with z | z
    · subst z; unfold lamF; rw [if_pos (Or.inl (by omega))]; exact Nat.zero_le _
    · exact (lamEq m hm z).2
  have n0 : ∀ m, ¬ S.1 w 0 m ≤ 4 → ¬ m = 0 := fun m hk e => hk (by rw [e]; exact (kLow 0 (by omega)).1)
  have le45 : ∀ {m : Nat}, ¬ S.1 w 0 m ≤ 5 → ¬ S.1 w 0 m ≤ 4 := fun hk z => hk (Int32.le_trans z (by decide))
  refine ⟨hO, Nat.le_refl 16, vExt hE (hX3.2.2.1), hM, vClo hX3, r1, ⟨fun m hm => ?_, fun m hm hd => ?_, fun k m hk hm em => ?_, fun m b hm hb hd hk hp => ?_, fun k m b hk hm hb em hp => ?_⟩, rfl, rfl, rfl, rfl, fun m hm => ?_, fun _ _ => rfl, by rw [s11', a3, r2], by rw [s12', a4, hnw], ⟨fun v => cnt (gL (S.1 w 0) (S.1 p 3) (lamF (S.1 w 0) (S2.1 s 6)) v) M, fun v hv => c3 v (by omega), fun v hv => ?_, Nat.le_trans (cnt_le_n M) hM, fun v i hv h1 h2 => ?_, fun v i j m m' hv h1 h2 h3 e1 e2 hm hm' => ?_, fun m hm hd hk => ?_⟩, by rw [q3']; exact hQ.1.1, hQ.1.2.1, fun k hk => ?_, by rw [q3']; exact hQ.2.1, hQ.2.2.1, hQ.2.2.2.1, fun i hi => ?_⟩
  · unfold lamF
    rw [vk] at hm
    rw [if_pos hm]
  · rw [mk] at hd
    have := lamLe m hm hd
    have e := cnt_mono (P := gW (S.1 w 0) (S.1 p 3)) (show m + 1 ≤ M by omega)
    omega
  · rw [v26] at em
    obtain ⟨z1, z2, z3⟩ := r3 k m hk hm em
    obtain ⟨v, e1, e2, e3, _⟩ := lvp m hm z1
    have := e3 z2
    have hv : v ≤ 7 := Nat.le_trans e2 (Nat.le_trans (cnt_mono (by omega)) bW)
    unfold lamF
    rw [if_neg, e1, show tN (nI v) = v from nI_clamp (by omega)]
    · omega
    · rintro (y | y)
      · rw [lowK hC y (by omega)] at z2
        rcases z2 with z2 | z2
        · have := (nI_eq (a := m) (b := 3) (by omega) (by decide)).mp z2; omega
        · have := (nI_eq (a := m) (b := 5) (by omega) (by decide)).mp z2; omega
      · rcases z2 with z2 | z2 <;> rw [y] at z2 <;> exact absurd z2 (by decide)
  · rw [mk] at hd
    rw [vk] at hk
    have hp' := vpt m b hp
    have hd' : ¬ S.1 p 3 m = 0 := hd.elim (fun z => absurd z (n0 m (le45 hk))) id
    have hbm := lt m b hm hb hp'
    obtain ⟨v, e1, e2, e3, e4, e5⟩ := lvp m hm hd'
    obtain ⟨vb, f1, f2⟩ := e5 hk b hbm hp'
    have hv : v ≤ 7 := Nat.le_trans e2 (Nat.le_trans (cnt_mono (by omega)) bW)
    have lm : lamF (S.1 w 0) (S2.1 s 6) m = v := by
      unfold lamF
      rw [if_neg, e1, show tN (nI v) = v from nI_clamp (by omega)]
      rintro (y | y)
      · exact le45 hk (kLow m y).1
      · exact hk (by rw [y]; decide)
    rw [lm]
    unfold lamF
    by_cases z : b < 3 ∨ S.1 w 0 b = 4
    · rw [if_pos z]; exact Nat.zero_le v
    · rw [if_neg z, f1, show tN (nI vb) = vb from nI_clamp (by omega)]; exact f2
  · rw [v26] at em
    obtain ⟨z1, z2, z3⟩ := r3 k m hk hm em
    have hp' := vpt m b hp
    have hbm := lt m b hm hb hp'
    have := lamLe b hb (Or.inr (hcl m b hm hb z1 hp'))
    have e := cnt_mono (P := gW (S.1 w 0) (S.1 p 3)) (show b + 1 ≤ m by omega)
    omega
  · rw [hX3.2.2.1.2.2.2.2.1 m hm]
    rfl
  · show cnt (gL (S.1 w 0) (S.1 p 3) (lamF (S.1 w 0) (S2.1 s 6)) v) M ≤ cnt (gL (S.1 w 0) (S.1 p 3) (lamF (S.1 w 0) (S2.1 s 6)) (v + 1)) M
    exact gL_mono (by omega) M
  · have h2' : i < cnt (gL (S.1 w 0) (S.1 p 3) (lamF (S.1 w 0) (S2.1 s 6)) v) M + cnt (gV (S.1 w 0) (S.1 p 3) (lamF (S.1 w 0) (S2.1 s 6)) v) M := by rw [← gL_s]; exact h2
    have h1' : cnt (gL (S.1 w 0) (S.1 p 3) (lamF (S.1 w 0) (S2.1 s 6)) v) M ≤ i := h1
    obtain ⟨m, hm, hg, ec⟩ := cnt_hit (P := gV (S.1 w 0) (S.1 p 3) (lamF (S.1 w 0) (S2.1 s 6)) v) (n := M) (k := i - cnt (gL (S.1 w 0) (S.1 p 3) (lamF (S.1 w 0) (S2.1 s 6)) v) M) (by omega)
    obtain ⟨g1, g2⟩ := gV_iff.mp hg
    have := c4 m hm g1
    rw [g2, ec, show cnt (gL (S.1 w 0) (S.1 p 3) (lamF (S.1 w 0) (S2.1 s 6)) v) M + (i - cnt (gL (S.1 w 0) (S.1 p 3) (lamF (S.1 w 0) (S2.1 s 6)) v) M) = i by omega] at this
    exact ⟨m, hm, (mk m).mpr (Or.inr (gC_iff.mp g1).1), by rw [vk]; exact (gC_iff.mp g1).2, g2, this⟩
  · have eL := gL_s (κ := S.1 w 0) (D := S.1 p 3) (lv := lamF (S.1 w 0) (S2.1 s 6)) (v := v) M
    have at' : ∀ i m, cnt (gL (S.1 w 0) (S.1 p 3) (lamF (S.1 w 0) (S2.1 s 6)) v) M ≤ i → i < cnt (gL (S.1 w 0) (S.1 p 3) (lamF (S.1 w 0) (S2.1 s 6)) (v + 1)) M → S3.1 s 7 i = nI m → m < M → cnt (gV (S.1 w 0) (S.1 p 3) (lamF (S.1 w 0) (S2.1 s 6)) v) m = i - cnt (gL (S.1 w 0) (S.1 p 3) (lamF (S.1 w 0) (S2.1 s 6)) v) M := fun i m ha hb em hm => by
      obtain ⟨m2, hm2, hg, ec⟩ := cnt_hit (P := gV (S.1 w 0) (S.1 p 3) (lamF (S.1 w 0) (S2.1 s 6)) v) (n := M) (k := i - cnt (gL (S.1 w 0) (S.1 p 3) (lamF (S.1 w 0) (S2.1 s 6)) v) M) (by omega)
      obtain ⟨g1, g2⟩ := gV_iff.mp hg
      have := c4 m2 hm2 g1
      rw [g2, ec, show cnt (gL (S.1 w 0) (S.1 p 3) (lamF (S.1 w 0) (S2.1 s 6)) v) M + (i - cnt (gL (S.1 w 0) (S.1 p 3) (lamF (S.1 w 0) (S2.1 s 6)) v) M) = i by omega, em] at this
      have := (nI_eq (by omega) (by omega)).mp this
      subst this
      exact ec
    have h1' : cnt (gL (S.1 w 0) (S.1 p 3) (lamF (S.1 w 0) (S2.1 s 6)) v) M ≤ i := h1
    have h3' : j < cnt (gL (S.1 w 0) (S.1 p 3) (lamF (S.1 w 0) (S2.1 s 6)) (v + 1)) M := h3
    have x1 := at' i m h1' (by omega) e1 hm
    have x2 := at' j m' (by omega) h3' e2 hm'
    apply Nat.lt_of_not_le
    intro hle
    have := cnt_mono (P := gV (S.1 w 0) (S.1 p 3) (lamF (S.1 w 0) (S2.1 s 6)) v) hle
    omega
  · rw [mk] at hd
    rw [vk] at hk
    have hd' : ¬ S.1 p 3 m = 0 := hd.elim (fun z => absurd z (n0 m (le45 hk))) id
    have hg := gC_iff.mpr ⟨hd', hk⟩
    refine ⟨_, Nat.le_add_right _ _, ?_, c4 m hm hg⟩
    show cnt (gL (S.1 w 0) (S.1 p 3) (lamF (S.1 w 0) (S2.1 s 6)) (lamF (S.1 w 0) (S2.1 s 6) m)) M + cnt (gV (S.1 w 0) (S.1 p 3) (lamF (S.1 w 0) (S2.1 s 6)) (lamF (S.1 w 0) (S2.1 s 6) m)) m < cnt (gL (S.1 w 0) (S.1 p 3) (lamF (S.1 w 0) (S2.1 s 6)) (lamF (S.1 w 0) (S2.1 s 6) m + 1)) M
    rw [gL_s]
    have := cnt_lt hm (gV_iff.mpr ⟨hg, rfl⟩ : gV (S.1 w 0) (S.1 p 3) (lamF (S.1 w 0) (S2.1 s 6)) (lamF (S.1 w 0) (S2.1 s 6) m) m = true)
    omega
  · obtain ⟨m, hm, em, hd, hw⟩ := hQ.1.2.2 k hk
    refine ⟨m, hm, by rw [q3']; exact em, (mk m).mpr (Or.inr hd), ?_, by rw [s6']; exact (lamEq m hm hd).1⟩
    rw [v3, v5, w3]; exact hw
  · obtain ⟨m, hm, em, hd, hw⟩ := hQ.2.2.2.2 i hi
    refine ⟨m, hm, by rw [q3']; exact em, (mk m).mpr (Or.inr hd), ?_⟩
    rw [v3, v5, w3]; exact hw
end READY
