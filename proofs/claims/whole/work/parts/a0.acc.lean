/-! THE CLASS: reading and writing its objects -/
section ACC
variable {β : Type} {O : qOb9} {o ci j m : Nat} {S : qS}
theorem uI (h : oC O o = ci + 1) (hj : qKd ci j = 4) {k : Int32 → Option β} : hI ci O S o j k = k (S.1 o j 0) := if_pos ⟨h, hj⟩
theorem uO (h : oC O o = ci + 1) (hj : qKd ci j = 3) {k : Nat → Option β} : hO ci O o j k = k (oR O o j) := if_pos ⟨h, hj⟩
theorem uA (h : oC O o = ci + 1) (hj : qKd ci j < 3) {k : Nat × Nat → Option β} : hA ci O o j k = k (o, j) := if_pos ⟨h, hj⟩
theorem uk (h : oC O o = ci + 1) {x : Option β} : hk ci O o x = x := if_pos h
theorem uP (h : oC O o = ci + 1) (hj : qKd ci j = 4) {v : Int32} {k : qS → Option β} : hP ci O S o j v k = k (up3 S.1 o j 0 v, S.2) := if_pos ⟨h, hj⟩
theorem u_ok (h : oC O o = ci + 1) {d : Nat} (hj : qKd ci j = d) : okA O (o, j) d := ⟨by show oC O o ≠ 0; omega, by show qKd (oC O o - 1) j = d; rw [h]; exact hj⟩
theorem ul {d : Nat} (h : oC O o = ci + 1) (hj : qKd ci j = d) (hm : m < oN O o j) (hs : m < 2 ^ 31) {k : Int32 → Option β} : hl d O S (o, j) (nI m) k = k (S.1 o j m) := by
  unfold hl
  rw [if_pos ⟨u_ok h hj, nI_pos hs, by rw [nI_clamp hs]; exact hm⟩, nI_clamp hs]
theorem uw {d : Nat} (h : oC O o = ci + 1) (hj : qKd ci j = d) (hm : m < oN O o j) (hs : m < 2 ^ 31) {v : Int32} {k : qS → Option β} : hw d O S (o, j) (nI m) v k = k (up3 S.1 o j m v, S.2) := by
  unfold hw
  rw [if_pos ⟨u_ok h hj, nI_pos hs, by rw [nI_clamp hs]; exact hm⟩, nI_clamp hs]
theorem ulL (h : oC O o = ci + 1) (hj : qKd ci j = 2) (hm : m < oN O o j) (hs : m < 2 ^ 31) {k : Int64 → Option β} : hlL O S (o, j) (nI m) k = k (S.2 o j m) := by
  unfold hlL
  rw [if_pos ⟨u_ok h hj, nI_pos hs, by rw [nI_clamp hs]; exact hm⟩, nI_clamp hs]
theorem uwL (h : oC O o = ci + 1) (hj : qKd ci j = 2) (hm : m < oN O o j) (hs : m < 2 ^ 31) {v : Int64} {k : qS → Option β} : hwL O S (o, j) (nI m) v k = k (S.1, up3 S.2 o j m v) := by
  unfold hwL
  rw [if_pos ⟨u_ok h hj, nI_pos hs, by rw [nI_clamp hs]; exact hm⟩, nI_clamp hs]
theorem un (h : oC O o = ci + 1) (hj : qKd ci j < 3) {k : Int32 → Option β} : hn O (o, j) k = k (nI (oN O o j)) := by
  unfold hn
  rw [if_pos ⟨by show oC O o ≠ 0; omega, by show qKd (oC O o - 1) j < 3; rw [h]; exact hj⟩]
end ACC
/-- a store of nodes at a: room for R, hashes H -/
def NdO (O : qOb9) (a R H : Nat) : Prop := oC O a = 4 ∧ (∀ j, (j < 5 ∨ j = 6) → oN O a j = R) ∧ oN O a 5 = H ∧ R ≤ 6000 ∧ (H = 256 ∨ H = 2048)
/-- the last of the first N rows with this hash, by a row's hash -/
def tpF (ρ : Nat → Nat) (hh : Nat) : Nat → Int32
  | 0 => -1
  | N + 1 => if ρ N = hh then nI N else tpF ρ hh N
theorem tpF_congr {ρ ρ' : Nat → Nat} {hh : Nat} : ∀ {N : Nat}, (∀ i, i < N → ρ i = ρ' i) → tpF ρ hh N = tpF ρ' hh N := by
  intro N
  induction N with
  | zero => exact fun _ => rfl
  | succ N ih =>
    intro h
    unfold tpF
    rw [h N (Nat.lt_succ_self N), ih fun i hi => h i (Nat.lt_succ_of_lt hi)]
/-- the hash of a row -/
def cMix (k x y z : Int32) : Int32 := ((((k * 31) + x) * 131) + y) * 523 + z
def cHs (H : Nat) (k x y z : Int32) : Int32 := (cMix k x y z ^^^ (((cMix k x y z).toUInt32 >>> ((13 : Int32).toUInt32 &&& Int32.toUInt32 31)).toInt32)) &&& (nI H - 1)
theorem and_mask {x : Int32} {m : Nat} (hm : m = 255 ∨ m = 2047) : ∃ q, q ≤ m ∧ (x &&& nI m) = nI q := by
  have hnn : ¬ (x &&& nI m) < 0 := and_nn (by rcases hm with q | q <;> subst q <;> decide)
  obtain ⟨q, hq, e⟩ := nI_of hnn
  refine ⟨q, ?_, e⟩
  have h1 : (x &&& nI m).toBitVec.toNat ≤ m := by
    rw [Int32.toBitVec_and]
    rw [BitVec.toNat_and]
    have : (nI m).toBitVec.toNat = m := by rcases hm with q | q <;> subst q <;> decide
    rw [this]
    exact Nat.and_le_right
  rw [e] at h1
  have h2 : (nI q).toBitVec.toNat = q := by
    show (Int32.ofNat q).toBitVec.toNat = q
    rw [Int32.toBitVec_ofNat', BitVec.toNat_ofNat]
    exact Nat.mod_eq_of_lt (by omega)
  rw [h2] at h1
  exact h1
theorem cHs_nI {H : Nat} (hH : H = 256 ∨ H = 2048) (k x y z : Int32) : ∃ q, q < H ∧ cHs H k x y z = nI q := by
  unfold cHs
  have e : nI H - 1 = nI (H - 1) := by rcases hH with q | q <;> subst q <;> decide
  rw [e]
  obtain ⟨q, hq, e2⟩ := and_mask (x := cMix k x y z ^^^ (((cMix k x y z).toUInt32 >>> ((13 : Int32).toUInt32 &&& Int32.toUInt32 31)).toInt32)) (m := H - 1) (by omega)
  exact ⟨q, by omega, e2⟩
def cH (H : Nat) (k x y z : Int32) : Nat := (cHs H k x y z).toNatClampNeg
theorem cH_eq {H : Nat} (hH : H = 256 ∨ H = 2048) (k x y z : Int32) : cH H k x y z < H ∧ cHs H k x y z = nI (cH H k x y z) := by
  obtain ⟨q, hq, e⟩ := cHs_nI hH k x y z
  unfold cH
  rw [e, nI_clamp (by omega)]
  exact ⟨hq, rfl⟩
/-- the hash of the row that stands at i -/
def rwH (H : Nat) (σ : Nat → Nat → Int32) (i : Nat) : Nat := cH H (σ 0 i) (σ 1 i) (σ 2 i) (σ 3 i)
def cChn (H : Nat) (σ : Nat → Nat → Int32) (N : Nat) : Prop := (∀ hh, hh < H → σ 5 hh = tpF (rwH H σ) hh N + 1) ∧ ∀ i, i < N → σ 6 i = tpF (rwH H σ) (rwH H σ i) i
/-- the class's store: M nodes -/
def CS (O : qOb9) (a R H : Nat) (S : qS) (E M : Nat) : Prop := NdO O a R H ∧ S.1 a 7 0 = nI M ∧ M ≤ R ∧ Store (S.1 a 0) (S.1 a 1) (S.1 a 2) (S.1 a 3) E M ∧ (∀ m, m < M → S.1 a 4 m = bN (wd (S.1 a 0) (S.1 a 2) m)) ∧ cChn H (S.1 a) M
/-- the same without the rows' form -/
def CS0 (O : qOb9) (a R H : Nat) (S : qS) (M : Nat) : Prop := NdO O a R H ∧ S.1 a 7 0 = nI M ∧ M ≤ R ∧ (∀ m, m < M → S.1 a 4 m = bN (wd (S.1 a 0) (S.1 a 2) m)) ∧ cChn H (S.1 a) M
theorem CS.to0 {O : qOb9} {a R H E M : Nat} {S : qS} (h : CS O a R H S E M) : CS0 O a R H S M := ⟨h.1, h.2.1, h.2.2.1, h.2.2.2.2.1, h.2.2.2.2.2⟩
abbrev cCd (S : qS) (a n : Nat) : Nat := cd (S.1 a 0) (S.1 a 1) (S.1 a 2) (S.1 a 3) n
abbrev cWd (S : qS) (a n : Nat) : Bool := wd (S.1 a 0) (S.1 a 2) n
/-- the row that stands at i -/
def rwI (σ : Nat → Nat → Int32) (k x y z : Int32) (i : Nat) : Prop := σ 0 i = k ∧ σ 1 i = x ∧ σ 2 i = y ∧ σ 3 i = z
section NODES
variable {O : qOb9} {a n R H E M : Nat} {S : qS}
theorem cls_has (hC : CS O a R H S E M) {v : Int32} : G_XNodes_has O n a v S = some (bN (inN v M), S) := by
  obtain ⟨hN, h7, hM, hS, _⟩ := hC
  have hR := hN.2.2.2.1
  unfold G_XNodes_has G_XNodes_has_16 G_XNodes_has_17 inN
  by_cases q : v < 0
  · rw [if_pos q, decide_eq_false (Int32.not_le.mpr q)]; exact hz_bN (b := false)
  · rw [if_neg q, uI (ci := 3) hN.1 (by decide), h7]
    have h3 := hS.1
    obtain ⟨v', hv', rfl⟩ := nI_of q
    obtain ⟨M', rfl⟩ : ∃ q, M = q + 1 := ⟨M - 1, by omega⟩
    rw [nI_pred, decide_eq_true (nI_pos' hv'), Bool.true_and]
    by_cases z : M' + 1 ≤ v'
    · rw [if_pos (nI_le z (by omega)), decide_eq_false (nI_ge (by omega) (by omega))]; exact hz_bN (b := false)
    · rw [if_neg (nI_ge (by omega) (by omega)), decide_eq_true (nI_le (by omega) (by omega))]; exact hz_bN (b := true)
theorem cls_isWord (hC : CS O a R H S E M) {v : Int32} : G_XNodes_isWord O n a v S = some (bN (inN v M && cWd S a v.toNatClampNeg), S) := by
  obtain ⟨hN, h7, hM, hS, hw, _⟩ := hC
  have hR := hN.2.2.2.1
  have h3 := hS.1
  unfold G_XNodes_isWord G_XNodes_isWord_25 G_XNodes_isWord_26 inN
  by_cases q : v < 0
  · rw [if_pos q, decide_eq_false (Int32.not_le.mpr q)]; exact hz_bN (b := false)
  · rw [if_neg q, uI (ci := 3) hN.1 (by decide), h7]
    obtain ⟨v', hv', rfl⟩ := nI_of q
    obtain ⟨M', rfl⟩ : ∃ q, M = q + 1 := ⟨M - 1, by omega⟩
    rw [nI_pred, decide_eq_true (nI_pos' hv'), Bool.true_and]
    by_cases z : M' + 1 ≤ v'
    · rw [if_pos (nI_le z (by omega)), decide_eq_false (nI_ge (by omega) (by omega))]; exact hz_bN (b := false)
    · have hl4 : v' < oN O a 4 := by rw [hN.2.1 4 (by omega)]; omega
      rw [if_neg (nI_ge (by omega) (by omega)), decide_eq_true (nI_le (by omega) (by omega)), Bool.true_and, uA (ci := 3) hN.1 (by decide), ul (ci := 3) hN.1 (by decide) hl4 hv', hw v' (by omega), nI_clamp hv', bN_if]
      show (bif wd (S.1 a 0) (S.1 a 2) v' then hz 1 S else hz 0 S) = some (bN (wd (S.1 a 0) (S.1 a 2) v'), S)
      cases wd (S.1 a 0) (S.1 a 2) v' with
      | true => exact hz_bN (b := true)
      | false => exact hz_bN (b := false)
/-- the walk down a chain finds the row, or comes to its end -/
theorem cls_put_56 (hC : CS0 O a R H S M) {k x y z : Int32} {h6 : Int32} : ∀ (i l f : Nat), i ≤ M → i ≤ l → l < 2 ^ 31 → i < f →
    (∃ q, q < i ∧ rwI (S.1 a) k x y z q ∧ G_XNodes_put_56 O n f a k x y z h6 (tpF (rwH H (S.1 a)) (cH H k x y z) i) (nI l) S = some (nI q, S)) ∨
    ((∀ q, q < i → ¬ rwI (S.1 a) k x y z q) ∧ G_XNodes_put_56 O n f a k x y z h6 (tpF (rwH H (S.1 a)) (cH H k x y z) i) (nI l) S = G_XNodes_put_129 O n a k x y z h6 S) := by
  obtain ⟨hN, h7, hM, hw, hc⟩ := hC
  have hR := hN.2.2.2.1
  intro i
  induction i with
  | zero =>
    intro l f _ _ hl hf
    obtain ⟨f, rfl⟩ : ∃ f', f = f' + 1 := ⟨f - 1, by omega⟩
    right
    refine ⟨fun q hq => absurd hq (Nat.not_lt_zero q), ?_⟩
    rw [tpF, G_XNodes_put_56]
    by_cases q : nI l ≤ 0
    · rw [if_pos q]
    · rw [if_neg q, if_pos (by decide)]
  | succ i ih =>
    intro l f hi hil hl hf
    unfold tpF
    by_cases e : rwH H (S.1 a) i = cH H k x y z
    · rw [if_pos e]
      obtain ⟨f, rfl⟩ : ∃ f', f = f' + 1 := ⟨f - 1, by omega⟩
      have i0 : i < oN O a 0 := by rw [hN.2.1 0 (by omega)]; omega
      have i1 : i < oN O a 1 := by rw [hN.2.1 1 (by omega)]; omega
      have i2 : i < oN O a 2 := by rw [hN.2.1 2 (by omega)]; omega
      have i3 : i < oN O a 3 := by rw [hN.2.1 3 (by omega)]; omega
      have i6 : i < oN O a 6 := by rw [hN.2.1 6 (by omega)]; omega
      have is : i < 2 ^ 31 := by omega
      have nx : ¬ rwI (S.1 a) k x y z i → (∃ q, q < i + 1 ∧ rwI (S.1 a) k x y z q ∧ G_XNodes_put_114 O n (G_XNodes_put_56 O n f) a k x y z h6 (nI i) (nI l) S = some (nI q, S)) ∨ ((∀ q, q < i + 1 → ¬ rwI (S.1 a) k x y z q) ∧ G_XNodes_put_114 O n (G_XNodes_put_56 O n f) a k x y z h6 (nI i) (nI l) S = G_XNodes_put_129 O n a k x y z h6 S) := by
        intro hno
        unfold G_XNodes_put_114
        obtain ⟨l', rfl⟩ : ∃ q, l = q + 1 := ⟨l - 1, by omega⟩
        rw [uA (ci := 3) hN.1 (by decide), ul (ci := 3) hN.1 (by decide) i6 is, hc.2 i (by omega), e, hB_eq, show nI (l' + 1) + (-1 : Int32) = nI (l' + 1) - 1 from (Int32.sub_eq_add_neg _ _).symm, nI_pred]
        rcases ih l' f (by omega) (by omega) (by omega) (by omega) with ⟨q, hq, hr, eq⟩ | ⟨hn', eq⟩
        · exact Or.inl ⟨q, by omega, hr, eq⟩
        · refine Or.inr ⟨fun q hq => ?_, eq⟩
          by_cases z : q = i
          · rw [z]; exact hno
          · exact hn' q (by omega)
      rw [G_XNodes_put_56, if_neg (show ¬ nI l ≤ (0 : Int32) from nI_ge (a := 0) (b := l) (by omega) hl), if_neg (nI_pos is), uA (ci := 3) hN.1 (by decide), ul (ci := 3) hN.1 (by decide) i0 is]
      by_cases c0 : S.1 a 0 i = k
      · rw [if_pos c0, uA (ci := 3) hN.1 (by decide), ul (ci := 3) hN.1 (by decide) i1 is]
        by_cases c1 : S.1 a 1 i = x
        · rw [if_pos c1, uA (ci := 3) hN.1 (by decide), ul (ci := 3) hN.1 (by decide) i2 is]
          by_cases c2 : S.1 a 2 i = y
          · rw [if_pos c2, uA (ci := 3) hN.1 (by decide), ul (ci := 3) hN.1 (by decide) i3 is]
            by_cases c3 : S.1 a 3 i = z
            · rw [if_pos c3]
              exact Or.inl ⟨i, by omega, ⟨c0, c1, c2, c3⟩, rfl⟩
            · rw [if_neg c3]; exact nx (fun q => c3 q.2.2.2)
          · rw [if_neg c2]; exact nx (fun q => c2 q.2.2.1)
        · rw [if_neg c1]; exact nx (fun q => c1 q.2.1)
      · rw [if_neg c0]; exact nx (fun q => c0 q.1)
    · rw [if_neg e]
      have hno : ¬ rwI (S.1 a) k x y z i := fun ⟨c0, c1, c2, c3⟩ => e (by unfold rwH; rw [c0, c1, c2, c3])
      rcases ih l f (by omega) (by omega) hl (by omega) with ⟨q, hq, hr, eq⟩ | ⟨hn', eq⟩
      · exact Or.inl ⟨q, by omega, hr, eq⟩
      · refine Or.inr ⟨fun q hq => ?_, eq⟩
        by_cases z : q = i
        · rw [z]; exact hno
        · exact hn' q (by omega)
end NODES
