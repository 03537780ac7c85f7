/-! THE CLASS'S MARKS -/
section CMARKS
variable {O : qOb9} {a o ci j L n R H E M : Nat} {S : qS}
theorem CS_other {S' : qS} (hC : CS O a R H S E M) (h : S'.1 a = S.1 a) : CS O a R H S' E M := by
  unfold CS at hC ⊢
  rw [h]; exact hC
theorem setF_q {o j a : Nat} {g : Nat → Int32} (h : a ≠ o) : (setF S o j g).1 a = S.1 a := by
  funext j' i'
  exact upA_ne (fun q => h q.1)
/-- an array of marks at (o, j), beside the store at a -/
def MkA (O : qOb9) (a o ci j L : Nat) : Prop := oC O o = ci + 1 ∧ qKd ci j = 1 ∧ oN O o j = L ∧ a ≠ o ∧ L ≤ 6000
theorem cls_mark (hA : MkA O a o ci j L) (hC : CS O a R H S E M) (hML : M ≤ L) {v : Int32} (hv : v < 0 ∨ ∃ m, m < M ∧ v = nI m) : G_XNodes_mark O n a (o, j) v S = some ((), setF S o j (mkd (S.1 o j) v)) := by
  obtain ⟨h1, h2, h3, h4, h5⟩ := hA
  have hM31 := (CS_big hC).1
  unfold G_XNodes_mark G_XNodes_mark_18
  rw [uk (ci := 3) hC.1.1, cls_has hC, yC_some]
  rcases hv with hv | ⟨m, hm, rfl⟩
  · have e1 : inN v M = false := by unfold inN; rw [decide_eq_false (Int32.not_le.mpr hv)]; rfl
    have e2 : mkd (S.1 o j) v = S.1 o j := by
      funext i
      unfold mkd
      rw [if_neg (fun q => q.1 hv)]
    rw [e1, if_pos (by decide), e2, setF_self]
  · rw [inN_nI hM31 hm, if_neg (by decide), un h1 (by rw [h2]; decide), h3, if_neg (nI_ge (by omega) (by omega)), uw h1 h2 (by rw [h3]; omega) (by omega), nar_1, setF_up]
    have e : (fun i' => if i' = m then (1 : Int32) else S.1 o j i') = mkd (S.1 o j) (nI m) := by
      funext i
      unfold mkd
      rw [nI_clamp (by omega)]
      by_cases q : i = m
      · rw [if_pos q, if_pos ⟨nI_pos (by omega), q⟩]
      · rw [if_neg q, if_neg (fun z => q z.2)]
    rw [e]
theorem cls_unmark (hn : 7000 ≤ n) (hA : MkA O a o ci j L) (hC : CS O a R H S E M) (hML : M ≤ L) : G_XNodes_unmark O n a (o, j) S = some ((), setF S o j (fun k => if k < M then 0 else S.1 o j k)) := by
  obtain ⟨h1, h2, h3, h4, h5⟩ := hA
  have hM31 := (CS_big hC).1
  have loop : ∀ (d i f : Nat) (D : Nat → Int32), i + d = M → d < f → G_XNodes_unmark_2 O n f a (o, j) (nI i) (setF S o j D) = some ((), setF S o j (fun k => if i ≤ k ∧ k < M then 0 else D k)) := by
    intro d
    induction d with
    | zero =>
      intro i f D e hf
      obtain ⟨f, rfl⟩ : ∃ q, f = q + 1 := ⟨f - 1, by omega⟩
      rw [G_XNodes_unmark_2, uI (ci := 3) hC.1.1 (by decide), setF_q h4, hC.2.1, if_pos (nI_le (by omega) (by omega))]
      unfold G_XNodes_unmark_26
      have e2 : (fun k => if i ≤ k ∧ k < M then (0 : Int32) else D k) = D := by
        funext k
        rw [if_neg (by omega)]
      rw [e2]
    | succ d ih =>
      intro i f D e hf
      obtain ⟨f, rfl⟩ : ∃ q, f = q + 1 := ⟨f - 1, by omega⟩
      rw [G_XNodes_unmark_2, uI (ci := 3) hC.1.1 (by decide), setF_q h4, hC.2.1, if_neg (nI_ge (by omega) (by omega)), un h1 (by rw [h2]; decide), h3, if_neg (nI_ge (by omega) (by omega)), uw h1 h2 (by rw [h3]; omega) (by omega), nar_0, setF_up, setF_setF, setF_same, hB_eq, nI_1, ih (i + 1) f _ (by omega) (by omega)]
      have e2 : (fun k => if i + 1 ≤ k ∧ k < M then (0 : Int32) else if k = i then 0 else D k) = (fun k => if i ≤ k ∧ k < M then 0 else D k) := by
        funext k
        by_cases q : k = i
        · rw [if_neg (by omega), if_pos q, if_pos (by omega)]
        · rw [if_neg q]
          by_cases q2 : i + 1 ≤ k ∧ k < M
          · rw [if_pos q2, if_pos (by omega)]
          · rw [if_neg q2, if_neg (by omega)]
      rw [e2]
  have hR := hC.2.2.1
  have hR' := hC.1.2.2.2.1
  unfold G_XNodes_unmark
  have q := loop M 0 n (S.1 o j) (by omega) (by omega)
  rw [setF_self, nI_0] at q
  rw [q]
  have e2 : (fun k => if 0 ≤ k ∧ k < M then (0 : Int32) else S.1 o j k) = (fun k => if k < M then 0 else S.1 o j k) := by
    funext k
    by_cases q : k < M
    · rw [if_pos ⟨Nat.zero_le k, q⟩, if_pos q]
    · rw [if_neg (fun z => q z.2), if_neg q]
  rw [e2]
theorem mpAll_low {κ α β γ : Nat → Int32} {D : Nat → Int32} : ∀ m, m ≤ 3 → mpAll κ α β γ m D = D := by
  intro m
  induction m with
  | zero => intro _; rfl
  | succ m ih =>
    intro h
    unfold mpAll
    rw [if_pos (by omega)]
theorem cls_spread (hn : 7000 ≤ n) (hE : E ≤ 16) (hA : MkA O a o ci j L) (hC : CS O a R H S E M) (hML : M ≤ L) : G_XNodes_spread O n a (o, j) S = some ((), setF S o j (mpAll (S.1 a 0) (S.1 a 1) (S.1 a 2) (S.1 a 3) M (S.1 o j))) := by
  have hA' := hA
  obtain ⟨h1, h2, h3, h4, h5⟩ := hA
  have hM31 := (CS_big hC).1
  have hMR := hC.2.2.1
  have hNR := hC.1.2.2.2.1
  have rOk := hC.2.2.2.1.2.1
  have loop : ∀ (m f : Nat) (D : Nat → Int32), m ≤ M → m < f → G_XNodes_spread_7 O n f a (o, j) (nI m - 1) (setF S o j D) = some ((), setF S o j (mpAll (S.1 a 0) (S.1 a 1) (S.1 a 2) (S.1 a 3) m D)) := by
    intro m
    induction m with
    | zero =>
      intro f D _ hf
      obtain ⟨f, rfl⟩ : ∃ q, f = q + 1 := ⟨f - 1, by omega⟩
      rw [G_XNodes_spread_7, if_pos (by decide)]
      rfl
    | succ m ih =>
      intro f D hm hf
      obtain ⟨f, rfl⟩ : ∃ q, f = q + 1 := ⟨f - 1, by omega⟩
      have mL : m < oN O o j := by rw [h3]; omega
      have m0 : m < oN O a 0 := by rw [hC.1.2.1 0 (by omega)]; omega
      have m1 : m < oN O a 1 := by rw [hC.1.2.1 1 (by omega)]; omega
      have m2 : m < oN O a 2 := by rw [hC.1.2.1 2 (by omega)]; omega
      have m3 : m < oN O a 3 := by rw [hC.1.2.1 3 (by omega)]; omega
      have ms : m < 2 ^ 31 := by omega
      have sa : ∀ D', (setF S o j D').1 a = S.1 a := fun D' => setF_q h4
      have go : ∀ D', G_XNodes_spread_71 O n (G_XNodes_spread_7 O n f) a (o, j) (nI m) (setF S o j D') = some ((), setF S o j (mpAll (S.1 a 0) (S.1 a 1) (S.1 a 2) (S.1 a 3) m D')) := by
        intro D'
        unfold G_XNodes_spread_71
        rw [hB_eq, show nI m + (-1 : Int32) = nI m - 1 from (Int32.sub_eq_add_neg _ _).symm]
        exact ih f D' (by omega) (by omega)
      have mk : ∀ D' v, (v < 0 ∨ ∃ q, q < M ∧ v = nI q) → G_XNodes_mark O n a (o, j) v (setF S o j D') = some ((), setF S o j (mkd D' v)) := fun D' v hv => by
        rw [cls_mark (O := O) (n := n) hA' (CS_other hC (sa D')) hML hv, setF_setF, setF_same]
      have kk := cd_kind rOk hM31 hE (show m < M by omega)
      have k5 : ∀ y : Prop, (S.1 a 0 m < 5 ↔ S.1 a 0 m ≤ 4) := fun _ => by
        have b := kk.2.1
        rw [kk.1]
        constructor
        · intro z
          have := (nI_ltI (b := 5) (by omega) (by decide)).mp z
          exact nI_le (b := 4) (by omega) (by decide)
        · intro z
          have := (nI_leI (b := 4) (by omega) (by decide)).mp z
          exact (nI_ltI (b := 5) (by omega) (by decide)).mpr (by omega)
      rw [nI_pred, G_XNodes_spread_7, if_neg (nI_pos ms), ul h1 h2 mL ms, setF_same]
      unfold mpAll
      by_cases hlow : m ≤ 2
      · rw [if_pos hlow]
        have k4 : S.1 a 0 m ≤ 4 := by
          rw [kk.1, kk.2.2.1 (by omega)]
          exact nI_le (b := 4) (by omega) (by decide)
        have fin := go D
        rw [mpAll_low m (by omega)] at fin
        by_cases d0 : D m = 0
        · rw [if_pos d0]; exact fin
        · rw [if_neg d0, uA (ci := 3) hC.1.1 (by decide), ul (ci := 3) hC.1.1 (by decide) m0 ms, sa, if_pos ((k5 True).mpr k4)]; exact fin
      · rw [if_neg hlow]
        unfold mpStep
        by_cases d0 : D m = 0
        · rw [if_pos d0, if_pos d0]; exact go D
        · rw [if_neg d0, if_neg d0, uA (ci := 3) hC.1.1 (by decide), ul (ci := 3) hC.1.1 (by decide) m0 ms, sa]
          by_cases k4 : S.1 a 0 m ≤ 4
          · rw [if_pos ((k5 True).mpr k4), if_pos k4]; exact go D
          · obtain ⟨q1, q2, q3⟩ := rowOk_parts (rOk m (by omega)) ms k4
            have lift : ∀ v : Int32, (v < 0 ∨ ∃ q, q < m ∧ v = nI q) → (v < 0 ∨ ∃ q, q < M ∧ v = nI q) := fun v hv => hv.elim Or.inl (fun ⟨q, hq, e⟩ => Or.inr ⟨q, by omega, e⟩)
            rw [if_neg (fun z => k4 ((k5 True).mp z)), if_neg k4, uA (ci := 3) hC.1.1 (by decide), ul (ci := 3) hC.1.1 (by decide) m1 ms, sa, uk (ci := 3) hC.1.1, mk _ _ (lift _ q1), yV_some, uA (ci := 3) hC.1.1 (by decide), ul (ci := 3) hC.1.1 (by decide) m2 ms, sa, uk (ci := 3) hC.1.1, mk _ _ (lift _ q2), yV_some, uA (ci := 3) hC.1.1 (by decide), ul (ci := 3) hC.1.1 (by decide) m0 ms, sa]
            by_cases k9 : S.1 a 0 m = 9
            · rw [if_pos k9, if_pos k9, uA (ci := 3) hC.1.1 (by decide), ul (ci := 3) hC.1.1 (by decide) m3 ms, sa, uk (ci := 3) hC.1.1, mk _ _ (lift _ (q3 k9)), yV_some]
              exact go _
            · rw [if_neg k9, if_neg k9]
              exact go _
  unfold G_XNodes_spread
  rw [uI (ci := 3) hC.1.1 (by decide), hC.2.1, hB_eq]
  have q := loop M n (S.1 o j) (Nat.le_refl M) (by omega)
  rw [setF_self] at q
  exact q
/-- marks as a set, at (o, j) -/
def MKc (S : qS) (o j M : Nat) (T : Nat → Prop) : Prop := (∀ q, S.1 o j q = 0 ∨ S.1 o j q = 1) ∧ ∀ m, m < M → (¬ S.1 o j m = 0 ↔ T m)
theorem MKc_iff {o j M : Nat} {T T' : Nat → Prop} (h : MKc S o j M T) (he : ∀ m, m < M → (T m ↔ T' m)) : MKc S o j M T' := ⟨h.1, fun m hm => (h.2 m hm).trans (he m hm)⟩
theorem cls_mark_MK (hA : MkA O a o ci j L) (hC : CS O a R H S E M) (hML : M ≤ L) {m : Nat} (hm : m < M) {T : Nat → Prop} (hT : MKc S o j M T) : ∃ S', G_XNodes_mark O n a (o, j) (nI m) S = some ((), S') ∧ rOnly o S S' ∧ (∀ i, i ≠ j → S'.1 o i = S.1 o i) ∧ MKc S' o j M (fun q => T q ∨ q = m) := by
  have hM31 := (CS_big hC).1
  refine ⟨_, cls_mark (O := O) (n := n) hA hC hML (Or.inr ⟨m, hm, rfl⟩), setF_only, fun i hi => setF_ne hi, fun p => ?_, fun q hq => ?_⟩
  · rw [setF_same]; exact mkd_01 hT.1 p
  · rw [setF_same, mkd_nI (by omega), hT.2 q hq]
end CMARKS
