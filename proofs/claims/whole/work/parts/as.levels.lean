/-! THE CLASS SETS LEVELS -/
/-- node m has its level -/
def LvP (p w s : Nat) (S T : qS) (m : Nat) : Prop := ∃ v, T.1 s 6 m = nI v ∧ v ≤ cnt (gW (S.1 w 0) (S.1 p 3)) (m + 1) ∧ (S.1 w 0 m = 3 ∨ S.1 w 0 m = 5 → v = cnt (gW (S.1 w 0) (S.1 p 3)) m + 1) ∧ (S.1 w 0 m ≤ 4 → ¬ S.1 w 0 m = 3 → v = 0) ∧ (¬ S.1 w 0 m ≤ 5 → ∀ b, b < m → isPt (S.1 w 0) (S.1 w 1) (S.1 w 2) (S.1 w 3) m b → ∃ vb, T.1 s 6 b = nI vb ∧ vb ≤ v)
section LEVELS
variable {O : qOb9} {x c u p f w q s l n E M : Nat} {S T : qS}
theorem cls_levelOf (hO : ClO O x c u p f w q s l) {m X : Nat} (hm : m < 5732) {v : Int32} (hv : v = -1 ∨ ∃ b lb, b < m ∧ v = nI b ∧ T.1 s 6 b = nI lb ∧ lb ≤ X) : ∃ y, G_XSearch_levelOf O n s v T = some (nI y, T) ∧ y ≤ X ∧ ∀ b, v = nI b → b < m → ∃ vb, T.1 s 6 b = nI vb ∧ vb ≤ y := by
  obtain ⟨⟨h1, h2, h3, h4, h5, h6, h7⟩, _, _, _, _, _, ⟨s3, s4, s5, s6, s7, s8, s9⟩, _⟩ := hO
  unfold G_XSearch_levelOf G_XSearch_levelOf_15
  rcases hv with z | ⟨b, lb, hb, z, el, hl⟩
  · rw [if_pos z]
    refine ⟨0, rfl, Nat.zero_le X, fun b e hb => ?_⟩
    rw [z] at e
    exact absurd (by rw [← e]; decide) (nI_pos (show b < 2 ^ 31 by omega))
  · have b6 : b < oN O s 6 := by rw [s6]; omega
    rw [if_neg (show ¬ v = -1 from fun y => nI_pos (show b < 2 ^ 31 by omega) (by rw [← z, y]; decide)), uA (ci := 8) h6 (by decide), z, ul (ci := 8) h6 (by decide) b6 (by omega), el]
    refine ⟨lb, rfl, hl, fun b' e hb' => ?_⟩
    have := (nI_eq (by omega) (by omega)).mp e
    subst this
    exact ⟨lb, el, Nat.le_refl lb⟩
theorem max_nI {a b : Nat} (ha : a < 2 ^ 31) (hb : b < 2 ^ 31) : (if nI a < nI b then nI b else nI a) = nI (max a b) := by
  by_cases z : a < b
  · rw [if_pos ((nI_ltI ha hb).mpr z), Nat.max_eq_right (by omega)]
  · rw [if_neg (fun y => z ((nI_ltI ha hb).mp y)), Nat.max_eq_left (by omega)]
/-- the parts of a compound row -/
theorem comp_parts {κ α β γ : Nat → Int32} {m : Nat} (h : rowOk κ α β γ E m) (hm : m < 2 ^ 31) (hk : ¬ κ m ≤ 5) : (∃ a, a < m ∧ α m = nI a) ∧ (β m = -1 ∨ ∃ b, b < m ∧ β m = nI b) ∧ (γ m = -1 ∨ (κ m = 9 ∧ ∃ b, b < m ∧ γ m = nI b)) := by
  rcases h with ⟨h0, z, _⟩ | ⟨_, z | z | z | z | z | z⟩
  · rw [z] at hk
    exact absurd (nI_le (b := 5) (by omega) (by decide)) hk
  · rcases z.1 with y | y <;> rw [y] at hk <;> exact absurd (by decide) hk
  · rw [z.1] at hk; exact absurd (by decide) hk
  · obtain ⟨_, ⟨a, b, ha, hb, e1, e2, _⟩, e3⟩ := z
    exact ⟨⟨a, by omega, e1⟩, Or.inr ⟨b, hb, e2⟩, Or.inl e3⟩
  · obtain ⟨_, ⟨a, _, ha, e1, _⟩, e2, e3⟩ := z
    exact ⟨⟨a, ha, e1⟩, Or.inl e2, Or.inl e3⟩
  · obtain ⟨_, ⟨a, b, _, ha, hb, e1, e2, _⟩, e3⟩ := z
    exact ⟨⟨a, by omega, e1⟩, Or.inr ⟨b, hb, e2⟩, Or.inl e3⟩
  · obtain ⟨k, a, b, d, _, ha, hb, hd, _, e1, e2, e3, _⟩ := z
    exact ⟨⟨a, ha, e1⟩, Or.inr ⟨b, hb, e2⟩, Or.inr ⟨k, d, hd, e3⟩⟩
theorem cls_setLevels (hX : PX O x c u p f w q s l E M S) (hn : 7000 ≤ n) :
    ∃ S', G_XSearch_setLevels O n s (p, 3) S = some ((), S') ∧ rFr s S S' (fun j => j = 6) ∧ ∀ m, m < M → ¬ S.1 p 3 m = 0 → LvP p w s S S' m := by
  obtain ⟨hO, hE, hC, ⟨hM3, hlo, hhi⟩, h01, hcl, bW, bT⟩ := hX
  have NE := fun _ : Unit => ClO_ne hO
  have hO' := hO
  obtain ⟨⟨h1, h2, h3, h4, h5, h6, h7⟩, ⟨o1, o2, o3, o4, o5, o6, o7, o8, o9, o10, o11⟩, ⟨n1, n2, n3⟩, _, ⟨p3, p4, p5, p6⟩, _, ⟨s3, s4, s5, s6, s7, s8, s9⟩, _⟩ := hO
  have hM := hC.2.2.1
  have hM31 := (CS_big hC).1
  have loop : ∀ (d i fu : Nat) (T : qS), i + d = M → d < fu → rFr s S T (fun j => j = 6) → (∀ m, m < i → ¬ S.1 p 3 m = 0 → LvP p w s S T m) → ∃ S', G_XSearch_setLevels_4 O n fu s (p, 3) (nI (cnt (gW (S.1 w 0) (S.1 p 3)) i)) (nI i) T = some ((), S') ∧ rFr s S S' (fun j => j = 6) ∧ ∀ m, m < M → ¬ S.1 p 3 m = 0 → LvP p w s S S' m := by
    intro d
    induction d with
    | zero =>
      intro i fu T e hf hT hin
      obtain ⟨fu, rfl⟩ : ∃ q, fu = q + 1 := ⟨fu - 1, by omega⟩
      have e0 : i = M := by omega
      subst e0
      have tw : T.1 w = S.1 w := hT.1.2 w (NE ()).2.2.1.2.1
      rw [G_XSearch_setLevels_4, uO (ci := 8) h6 (by decide), o8, uI (ci := 3) n2.1 (by decide), tw, hC.2.1, if_pos (nI_le (by omega) (by omega))]
      exact ⟨T, rfl, hT, hin⟩
    | succ d ih =>
      intro i fu T e hf hT hin
      obtain ⟨fu, rfl⟩ : ∃ q, fu = q + 1 := ⟨fu - 1, by omega⟩
      have tw : T.1 w = S.1 w := hT.1.2 w (NE ()).2.2.1.2.1
      have tp : T.1 p = S.1 p := hT.1.2 p (NE ()).2.1.2.2.2.1
      have ip : i < oN O p 3 := by rw [p3]; omega
      have iw : i < oN O w 0 := by rw [n2.2.1 0 (by omega)]; omega
      have i1 : i < oN O w 1 := by rw [n2.2.1 1 (by omega)]; omega
      have i2 : i < oN O w 2 := by rw [n2.2.1 2 (by omega)]; omega
      have i3 : i < oN O w 3 := by rw [n2.2.1 3 (by omega)]; omega
      have i6 : i < oN O s 6 := by rw [s6]; omega
      have cM : cnt (gW (S.1 w 0) (S.1 p 3)) (i + 1) ≤ 7 := Nat.le_trans (cnt_mono (by omega)) bW
      have cs := cnt_s (P := gW (S.1 w 0) (S.1 p 3)) i
      -- after a write of i's level
      have put : ∀ v, v ≤ cnt (gW (S.1 w 0) (S.1 p 3)) (i + 1) → (S.1 w 0 i = 3 ∨ S.1 w 0 i = 5 → v = cnt (gW (S.1 w 0) (S.1 p 3)) i + 1) → (S.1 w 0 i ≤ 4 → ¬ S.1 w 0 i = 3 → v = 0) → (¬ S.1 w 0 i ≤ 5 → ∀ b, b < i → isPt (S.1 w 0) (S.1 w 1) (S.1 w 2) (S.1 w 3) i b → ∃ vb, T.1 s 6 b = nI vb ∧ vb ≤ v) → ∃ S', G_XSearch_setLevels_78 O n (G_XSearch_setLevels_4 O n fu) s (p, 3) (nI (cnt (gW (S.1 w 0) (S.1 p 3)) (i + 1))) (nI i) (up3 T.1 s 6 i (nI v), T.2) = some ((), S') ∧ rFr s S S' (fun j => j = 6) ∧ ∀ m, m < M → ¬ S.1 p 3 m = 0 → LvP p w s S S' m := by
        intro v a1 a2 a3 a4
        unfold G_XSearch_setLevels_78
        rw [hB_eq, nI_1]
        refine ih (i + 1) fu _ (by omega) (by omega) (hT.up rfl) (fun m hm hd => ?_)
        by_cases z : m = i
        · subst z
          refine ⟨v, up3_v, a1, a2, a3, fun k b hb hp => ?_⟩
          obtain ⟨vb, e1, e2⟩ := a4 k b hb hp
          exact ⟨vb, by rw [up3_o (by omega)]; exact e1, e2⟩
        · obtain ⟨v', b1, b2, b3, b4, b5⟩ := hin m (by omega) hd
          refine ⟨v', by rw [up3_o z]; exact b1, b2, b3, b4, fun k b hb hp => ?_⟩
          obtain ⟨vb, e1, e2⟩ := b5 k b hb hp
          exact ⟨vb, by rw [up3_o (by omega)]; exact e1, e2⟩
      rw [G_XSearch_setLevels_4, uO (ci := 8) h6 (by decide), o8, uI (ci := 3) n2.1 (by decide), tw, hC.2.1, if_neg (nI_ge (by omega) (by omega)), ul (ci := 6) h4 (by decide) ip (by omega), tp]
      by_cases d0 : S.1 p 3 i = 0
      · rw [if_pos d0]
        unfold G_XSearch_setLevels_78
        have c0 : gW (S.1 w 0) (S.1 p 3) i = false := by unfold gW; rw [decide_eq_true d0]; rfl
        replace cs : cnt (gW (S.1 w 0) (S.1 p 3)) (i + 1) = cnt (gW (S.1 w 0) (S.1 p 3)) i := by rw [cs, c0]; rfl
        rw [hB_eq, nI_1, ← cs]
        refine ih (i + 1) fu T (by omega) (by omega) hT (fun m hm hd => ?_)
        by_cases z : m = i
        · rw [z] at hd; exact absurd d0 hd
        · exact hin m (by omega) hd
      · rw [if_neg d0, uO (ci := 8) h6 (by decide), o8, uA (ci := 3) n2.1 (by decide), ul (ci := 3) n2.1 (by decide) iw (by omega), tw]
        have word : S.1 w 0 i = 3 ∨ S.1 w 0 i = 5 → ∃ S', G_XSearch_setLevels_44 O n (G_XSearch_setLevels_4 O n fu) s (p, 3) (nI (cnt (gW (S.1 w 0) (S.1 p 3)) i)) (nI i) T = some ((), S') ∧ rFr s S S' (fun j => j = 6) ∧ ∀ m, m < M → ¬ S.1 p 3 m = 0 → LvP p w s S S' m := fun hk => by
          have cw : gW (S.1 w 0) (S.1 p 3) i = true := gW_iff.mpr ⟨d0, hk⟩
          rw [cw, if_pos rfl] at cs
          unfold G_XSearch_setLevels_44
          rw [hB_eq, nI_1, uA (ci := 8) h6 (by decide), uw (ci := 8) h6 (by decide) i6 (by omega), ← cs]
          refine put _ (Nat.le_refl _) (fun _ => cs) (fun k4 k3 => ?_) (fun k5 => ?_)
          · rcases hk with z | z
            · exact absurd z k3
            · rw [z] at k4; exact absurd k4 (by decide)
          · rcases hk with z | z <;> rw [z] at k5 <;> exact absurd (by decide) k5
        by_cases k3 : S.1 w 0 i = 3
        · rw [if_pos k3]; exact word (Or.inl k3)
        rw [if_neg k3]
        by_cases k5 : S.1 w 0 i = 5
        · rw [if_pos k5]; exact word (Or.inr k5)
        rw [if_neg k5, uA (ci := 8) h6 (by decide)]
        have c0 : gW (S.1 w 0) (S.1 p 3) i = false := gW_not k3 k5
        replace cs : cnt (gW (S.1 w 0) (S.1 p 3)) (i + 1) = cnt (gW (S.1 w 0) (S.1 p 3)) i := by rw [cs, c0]; rfl
        by_cases k6 : (5 : Int32) ≤ S.1 w 0 i
        · have n5 : ¬ S.1 w 0 i ≤ 5 := fun z => k5 (Int32.le_antisymm z k6)
          have n4 : ¬ S.1 w 0 i ≤ 4 := fun z => n5 (Int32.le_trans z (by decide))
          obtain ⟨⟨a, ha, ea⟩, hb, hd⟩ := comp_parts (hC.2.2.2.1.2.1 i (by omega)) (by omega) n5
          have lv : ∀ b, b < i → isPt (S.1 w 0) (S.1 w 1) (S.1 w 2) (S.1 w 3) i b → ∃ lb, T.1 s 6 b = nI lb ∧ lb ≤ cnt (gW (S.1 w 0) (S.1 p 3)) i := fun b hbi hp => by
            obtain ⟨v, e1, e2, _⟩ := hin b hbi (hcl i b (by omega) (by omega) d0 hp)
            exact ⟨v, e1, Nat.le_trans e2 (cnt_mono (by omega))⟩
          obtain ⟨y1, f1, f2, f3⟩ := cls_levelOf (n := n) (T := T) (m := i) (X := cnt (gW (S.1 w 0) (S.1 p 3)) i) hO' (by omega) (v := S.1 w 1 i) (by
            obtain ⟨lb, z1, z2⟩ := lv a ha ⟨n4, Or.inl ea⟩
            exact Or.inr ⟨a, lb, ha, ea, z1, z2⟩)
          obtain ⟨y2, g1, g2, g3⟩ := cls_levelOf (n := n) (T := T) (m := i) (X := cnt (gW (S.1 w 0) (S.1 p 3)) i) hO' (by omega) (v := S.1 w 2 i) (by
            rcases hb with z | ⟨b, hbi, eb⟩
            · exact Or.inl z
            · obtain ⟨lb, z1, z2⟩ := lv b hbi ⟨n4, Or.inr (Or.inl eb)⟩
              exact Or.inr ⟨b, lb, hbi, eb, z1, z2⟩)
          obtain ⟨y3, j1, j2, j3⟩ := cls_levelOf (n := n) (T := T) (m := i) (X := cnt (gW (S.1 w 0) (S.1 p 3)) i) hO' (by omega) (v := S.1 w 3 i) (by
            rcases hd with z | ⟨k9, b, hbi, eb⟩
            · exact Or.inl z
            · obtain ⟨lb, z1, z2⟩ := lv b hbi ⟨n4, Or.inr (Or.inr ⟨k9, eb⟩)⟩
              exact Or.inr ⟨b, lb, hbi, eb, z1, z2⟩)
          have ep : G_XSearch_levelOfParts O n s (nI i) T = some (nI (max (max y1 y2) y3), T) := by
            unfold G_XSearch_levelOfParts
            rw [uO (ci := 8) h6 (by decide), o8, uA (ci := 3) n2.1 (by decide), ul (ci := 3) n2.1 (by decide) i1 (by omega), tw, uk (ci := 8) h6, f1, yC_some, uO (ci := 8) h6 (by decide), o8, uA (ci := 3) n2.1 (by decide), ul (ci := 3) n2.1 (by decide) i2 (by omega), tw, uk (ci := 8) h6, g1, yC_some, max_nI (by omega) (by omega), hB_eq, uO (ci := 8) h6 (by decide), o8, uA (ci := 3) n2.1 (by decide), ul (ci := 3) n2.1 (by decide) i3 (by omega), tw, uk (ci := 8) h6, j1, yC_some, max_nI (by omega) (by omega), hB_eq]
          rw [if_pos k6, uk (ci := 8) h6, ep, yC_some]
          unfold G_XSearch_setLevels_77
          rw [uw (ci := 8) h6 (by decide) i6 (by omega), ← cs]
          refine put _ (by omega) (fun z => z.elim (fun y => absurd y k3) (fun y => absurd y k5)) (fun z _ => absurd z n4) (fun _ b hbi hp => ?_)
          rcases hp.2 with z | z | ⟨_, z⟩
          · obtain ⟨vb, e1, e2⟩ := f3 b z hbi
            exact ⟨vb, e1, by omega⟩
          · obtain ⟨vb, e1, e2⟩ := g3 b z hbi
            exact ⟨vb, e1, by omega⟩
          · obtain ⟨vb, e1, e2⟩ := j3 b z hbi
            exact ⟨vb, e1, by omega⟩
        · rw [if_neg k6]
          unfold G_XSearch_setLevels_77
          have w0 := uw (O := O) (S := T) (o := s) (ci := 8) (j := 6) (m := i) (d := 0) (v := nI 0) (k := fun S1 => G_XSearch_setLevels_78 O n (G_XSearch_setLevels_4 O n fu) s (p, 3) (nI (cnt (gW (S.1 w 0) (S.1 p 3)) i)) (nI i) S1) h6 (by decide) i6 (by omega)
          rw [nI_0] at w0
          rw [w0, ← cs]
          have := put 0 (Nat.zero_le _) (fun z => z.elim (fun y => absurd y k3) (fun y => absurd y k5)) (fun _ _ => rfl) (fun z => absurd (Int32.le_of_lt (Int32.not_le.mp z)) k6)
          rw [nI_0] at this
          exact this
  obtain ⟨S', y⟩ := loop M 0 n S (by omega) (by omega) rFr.refl (fun m hm => absurd hm (Nat.not_lt_zero m))
  refine ⟨S', ?_, y.2⟩
  have := y.1
  rw [show cnt (gW (S.1 w 0) (S.1 p 3)) 0 = 0 from rfl, nI_0] at this
  exact this
end LEVELS
