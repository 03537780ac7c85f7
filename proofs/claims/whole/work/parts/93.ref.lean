/-! THE PURE PART: the reference -/
def refN (j : Nat) : Nat := match j with
  | 7 => 1021
  | 11 => 16 | 12 => 16 | 13 => 16 | 14 => 16 | 15 => 16 | 18 => 16 | 19 => 16 | 20 => 16 | 32 => 16
  | 16 => 8
  | 17 => 300
  | 26 => 7 | 27 => 7
  | 28 => 6
  | _ => 6400
/-- O has the reference at r -/
def Ref (O : qOb9) (r : Nat) : Prop := oC O r = 1 ∧ ∀ j, qKd 0 j < 3 → oN O r j = refN j
section REQ
variable {β : Type} {O : qOb9} {r j m : Nat} {S : qS}
theorem rI (h : Ref O r) (hj : qKd 0 j = 4) {k : Int32 → Option β} : hI 0 O S r j k = k (S.1 r j 0) := if_pos ⟨h.1, hj⟩
theorem rA (h : Ref O r) (hj : qKd 0 j < 3) {k : Nat × Nat → Option β} : hA 0 O r j k = k (r, j) := if_pos ⟨h.1, hj⟩
theorem rk (h : Ref O r) {x : Option β} : hk 0 O r x = x := if_pos h.1
theorem rP (h : Ref O r) (hj : qKd 0 j = 4) {v : Int32} {k : qS → Option β} : hP 0 O S r j v k = k (up3 S.1 r j 0 v, S.2) := if_pos ⟨h.1, hj⟩
theorem ref_ok (h : Ref O r) {d : Nat} (hj : qKd 0 j = d) : okA O (r, j) d := ⟨by show oC O r ≠ 0; rw [h.1]; decide, by show qKd (oC O r - 1) j = d; rw [h.1]; exact hj⟩
theorem refN_lt (j : Nat) : refN j < 2 ^ 31 := by
  unfold refN
  split <;> decide
theorem rl {d : Nat} (h : Ref O r) (hj : qKd 0 j = d) (hd : d < 3) (hm : m < refN j) {k : Int32 → Option β} : hl d O S (r, j) (nI m) k = k (S.1 r j m) := by
  have hm' : m < 2 ^ 31 := Nat.lt_trans hm (refN_lt j)
  have hn : oN O r j = refN j := h.2 j (by omega)
  unfold hl
  rw [if_pos ⟨ref_ok h hj, nI_pos hm', by rw [nI_clamp hm']; show m < oN O r j; rw [hn]; exact hm⟩, nI_clamp hm']
theorem rw' {d : Nat} (h : Ref O r) (hj : qKd 0 j = d) (hd : d < 3) (hm : m < refN j) {v : Int32} {k : qS → Option β} : hw d O S (r, j) (nI m) v k = k (up3 S.1 r j m v, S.2) := by
  have hm' : m < 2 ^ 31 := Nat.lt_trans hm (refN_lt j)
  have hn : oN O r j = refN j := h.2 j (by omega)
  unfold hw
  rw [if_pos ⟨ref_ok h hj, nI_pos hm', by rw [nI_clamp hm']; show m < oN O r j; rw [hn]; exact hm⟩, nI_clamp hm']
end REQ
/-- the chain of a row -/
def rHash (k a b c : Int32) : Int32 := (((((k * 31 + a + 1) * 31 + b + 1) * 31) + c + 1) &&& 2147483647) - (((((k * 31 + a + 1) * 31 + b + 1) * 31) + c + 1) &&& 2147483647) / 1021 * 1021
theorem ref_chainOf {O : qOb9} {n : Nat} {k a b c : Int32} {S : qS} : G_XModel_chainOf O n k a b c S = some (rHash k a b c, S) := by
  unfold G_XModel_chainOf hM
  rw [if_neg (by decide)]
  rfl
theorem and_nn {x y : Int32} (hy : y.toBitVec.msb = false) : ¬ (x &&& y) < 0 := by
  intro h
  have h1 : (x &&& y).toInt < 0 := Int32.lt_iff_toInt_lt.mp h
  have h2 : (x &&& y).toBitVec.msb = true := by
    rw [BitVec.msb_eq_toInt]
    exact decide_eq_true h1
  rw [Int32.toBitVec_and, BitVec.msb_and, hy, Bool.and_false] at h2
  cases h2
theorem nI_sub {a b : Nat} (h : b ≤ a) : nI a - nI b = nI (a - b) := by
  have e : nI a = nI (a - b) + nI b := by rw [nI_add, Nat.sub_add_cancel h]
  rw [e, Int32.add_sub_cancel]
theorem nI_mul (a b : Nat) : nI a * nI b = nI (a * b) := (Int32.ofNat_mul a b).symm
theorem nI_div {a b : Nat} (ha : a < 2 ^ 31) (hb : b < 2 ^ 31) (h0 : 0 < b) : nI a / nI b = nI (a / b) := by
  apply Int32.toInt_inj.mp
  have h1 : a / b < 2 ^ 31 := Nat.lt_of_le_of_lt (Nat.div_le_self a b) ha
  rw [Int32.toInt_div, nI_toInt ha, nI_toInt hb, nI_toInt h1]
  have key : ∀ q : Nat, q < 2 ^ 31 → ((q : Int).bmod (2 ^ 32)) = (q : Int) := fun q hq => by apply Int.bmod_eq_of_le <;> omega
  exact key _ h1
theorem nI_rem {a b : Nat} (ha : a < 2 ^ 31) (hb : b < 2 ^ 31) (h0 : 0 < b) : nI a - nI a / nI b * nI b = nI (a % b) := by
  rw [nI_div ha hb h0, nI_mul, nI_sub (Nat.div_mul_le_self a b)]
  congr 1
  have := Nat.div_add_mod a b
  rw [Nat.mul_comm] at this
  omega
theorem rHash_nn (k a b c : Int32) : ∃ h : Nat, h < 1021 ∧ rHash k a b c = nI h := by
  unfold rHash
  generalize (((((k * 31 + a + 1) * 31 + b + 1) * 31) + c + 1) : Int32) = x
  obtain ⟨y, hy, e⟩ := nI_of (and_nn (x := x) (y := 2147483647) (by decide))
  rw [e]
  exact ⟨y % 1021, Nat.mod_lt _ (by decide), nI_rem hy (by decide) (by decide)⟩
/-- the hash's number -/
def rH (k a b c : Int32) : Nat := (rHash k a b c).toNatClampNeg
theorem rH_lt (k a b c : Int32) : rH k a b c < 1021 := by
  obtain ⟨h, h1, h2⟩ := rHash_nn k a b c
  unfold rH
  rw [h2, nI_clamp (Nat.lt_trans h1 (by decide))]
  exact h1
theorem rH_eq (k a b c : Int32) : rHash k a b c = nI (rH k a b c) := by
  obtain ⟨h, h1, h2⟩ := rHash_nn k a b c
  unfold rH
  rw [h2, nI_clamp (Nat.lt_trans h1 (by decide))]
/-- the row that the reference has at i, and its hash -/
def rowH (σ : Nat → Nat → Int32) (i : Nat) : Nat := rH (σ 3 i) (σ 4 i) (σ 5 i) (σ 6 i)
theorem ref_link {O : qOb9} {r n i : Nat} {S : qS} (h : Ref O r) (hi : i < 6400) :
    G_XModel_link O n r (nI i) S = some ((), (up3 (up3 S.1 r 8 i (S.1 r 7 (rowH (S.1 r) i))) r 7 (rowH (S.1 r) i) (nI i), S.2)) := by
  unfold G_XModel_link
  have i3 : i < refN 3 := hi
  have i4 : i < refN 4 := hi
  have i5 : i < refN 5 := hi
  have i6 : i < refN 6 := hi
  have i8 : i < refN 8 := hi
  have b7 : rowH (S.1 r) i < refN 7 := rH_lt _ _ _ _
  have he : rHash (S.1 r 3 i) (S.1 r 4 i) (S.1 r 5 i) (S.1 r 6 i) = nI (rowH (S.1 r) i) := rH_eq _ _ _ _
  simp (decide := true) only [↓rA h, ↓rl h, ↓ref_chainOf, yC, i3, i4, i5, i6, i8, b7, he, ↓rw' h]
/-- the last of the first N rows with this hash, or NONE -/
def rTop (σ : Nat → Nat → Int32) (hh : Nat) : Nat → Int32
  | 0 => -1
  | N + 1 => if rowH σ N = hh then nI N else rTop σ hh N
theorem rTop_congr {σ τ : Nat → Nat → Int32} {hh : Nat} : ∀ {N : Nat}, (∀ i, i < N → rowH σ i = rowH τ i) → rTop σ hh N = rTop τ hh N := by
  intro N
  induction N with
  | zero => exact fun _ => rfl
  | succ N ih =>
    intro h
    unfold rTop
    rw [h N (Nat.lt_succ_self N), ih fun i hi => h i (Nat.lt_succ_of_lt hi)]
/-- the chains hold the first N rows -/
def rChain (σ : Nat → Nat → Int32) (N : Nat) : Prop := (∀ hh, hh < 1021 → σ 7 hh = rTop σ hh N) ∧ ∀ i, i < N → σ 8 i = rTop σ (rowH σ i) i
/-- what stays of the reference's state when chains are made anew -/
def rSame (σ τ : Nat → Nat → Int32) : Prop := ∀ j i, j ≠ 7 → j ≠ 8 → τ j i = σ j i
theorem rSame.row {σ τ : Nat → Nat → Int32} (h : rSame σ τ) (i : Nat) : rowH τ i = rowH σ i := by
  unfold rowH
  rw [h 3 i (by decide) (by decide), h 4 i (by decide) (by decide), h 5 i (by decide) (by decide), h 6 i (by decide) (by decide)]
/-- another state of the reference's object alone -/
def rOnly (r : Nat) (S S' : qS) : Prop := S'.2 = S.2 ∧ ∀ o, o ≠ r → S'.1 o = S.1 o
theorem rOnly.refl {r : Nat} {S : qS} : rOnly r S S := ⟨rfl, fun _ _ => rfl⟩
theorem rOnly.trans {r : Nat} {S S1 S2 : qS} (h1 : rOnly r S S1) (h2 : rOnly r S1 S2) : rOnly r S S2 := ⟨h2.1.trans h1.1, fun o ho => (h2.2 o ho).trans (h1.2 o ho)⟩
theorem rOnly.up {r j i : Nat} {S : qS} {v : Int32} : rOnly r S (up3 S.1 r j i v, S.2) := ⟨rfl, fun o ho => by funext j' i'; exact up3_ne (fun q => ho q.1)⟩
theorem up3_at {α : Type} (f : Nat → Nat → Nat → α) (o j i : Nat) (v : α) (j' i' : Nat) : up3 f o j i v o j' i' = if j' = j ∧ i' = i then v else f o j' i' := by simp [up3]
theorem yV_some {β : Type} {u : Unit} {S : qS} {k : qS → Option β} : yV (some (u, S)) k = k S := rfl
theorem yC_some {α β : Type} {v : α} {S : qS} {k : α → qS → Option β} : yC (some (v, S)) k = k v S := rfl
theorem hB_eq {γ β : Type} {v : γ} {k : γ → Option β} : hB v k = k v := rfl
/-- one row more is linked -/
theorem rChain_succ {σ τ : Nat → Nat → Int32} {N : Nat} (hc : rChain σ N) (hv : ∀ j i, τ j i = if j = 7 ∧ i = rowH σ N then nI N else if j = 8 ∧ i = N then σ 7 (rowH σ N) else σ j i) (hb : rowH σ N < 1021) : rSame σ τ ∧ rChain τ (N + 1) := by
  have hs : rSame σ τ := by
    intro j i h7 h8
    rw [hv, if_neg (fun q => h7 q.1), if_neg (fun q => h8 q.1)]
  have hr := hs.row
  have ht : ∀ hh M, rTop τ hh M = rTop σ hh M := fun hh M => rTop_congr fun i _ => hr i
  refine ⟨hs, fun hh hb' => ?_, fun i hi => ?_⟩
  · rw [hv]
    unfold rTop
    rw [hr N, ht]
    by_cases e : rowH σ N = hh
    · rw [if_pos ⟨rfl, e.symm⟩, if_pos e]
    · rw [if_neg (fun q => e q.2.symm), if_neg e, if_neg (fun q => absurd q.1 (by decide))]
      exact hc.1 hh hb'
  · rw [hv, if_neg (fun q => absurd q.1 (by decide)), hr i, ht]
    by_cases e : i = N
    · rw [if_pos ⟨rfl, e⟩, e]
      exact hc.1 _ hb
    · rw [if_neg (fun q => e q.2)]
      exact hc.2 i (by omega)
theorem ref_link_chain {O : qOb9} {r n N : Nat} {S : qS} (h : Ref O r) (hN : N < 6400) (hc : rChain (S.1 r) N) : ∃ S', G_XModel_link O n r (nI N) S = some ((), S') ∧ rOnly r S S' ∧ rSame (S.1 r) (S'.1 r) ∧ rChain (S'.1 r) (N + 1) := by
  have hb : rowH (S.1 r) N < 1021 := rH_lt _ _ _ _
  refine ⟨_, ref_link h hN, rOnly.up.trans rOnly.up, ?_⟩
  refine rChain_succ hc (fun j i => ?_) hb
  show up3 (up3 S.1 r 8 N _) r 7 _ (nI N) r j i = _
  rw [up3_at, up3_at]
/-- rows are linked up to N -/
theorem ref_begin_32 {O : qOb9} {r n N : Nat} (h : Ref O r) (hN : N < 6400) : ∀ (d i f : Nat) (S : qS), i + d = N → d < f → S.1 r 1 0 = nI N → rChain (S.1 r) i → ∃ S', G_XModel_begin_32 O n f r (nI i) S = some ((), S') ∧ rOnly r S S' ∧ rSame (S.1 r) (S'.1 r) ∧ rChain (S'.1 r) N := by
  intro d
  induction d with
  | zero =>
    intro i f S e hf hn hc
    obtain ⟨f, rfl⟩ : ∃ f', f = f' + 1 := ⟨f - 1, by omega⟩
    rw [G_XModel_begin_32, rI h (by decide), hn, if_pos (nI_le (by omega) (by omega))]
    exact ⟨S, rfl, rOnly.refl, fun _ _ _ _ => rfl, by rw [← e]; exact hc⟩
  | succ d ih =>
    intro i f S e hf hn hc
    obtain ⟨f, rfl⟩ : ∃ f', f = f' + 1 := ⟨f - 1, by omega⟩
    obtain ⟨S1, e1, o1, s1, c1⟩ := ref_link_chain (O := O) (n := n) (S := S) h (show i < 6400 by omega) hc
    obtain ⟨S2, e2, o2, s2, c2⟩ := ih (i + 1) f S1 (by omega) (by omega) (by rw [s1 1 0 (by decide) (by decide)]; exact hn) c1
    refine ⟨S2, ?_, o1.trans o2, fun j k h7 h8 => (s2 j k h7 h8).trans (s1 j k h7 h8), c2⟩
    rw [G_XModel_begin_32, rI h (by decide), hn, if_neg (nI_ge (by omega) (by omega)), rk h, e1, yV_some, hB_eq, nI_1]
    exact e2
/-- all chains are emptied -/
theorem ref_begin_2 {O : qOb9} {r n N : Nat} (h : Ref O r) (hN : N < 6400) (hn : 7000 ≤ n) : ∀ (d i f : Nat) (S : qS), i + d = 1021 → d < f → S.1 r 1 0 = nI N → (∀ hh, hh < i → S.1 r 7 hh = -1) → ∃ S', G_XModel_begin_2 O n f r (nI i) S = some ((), S') ∧ rOnly r S S' ∧ (∀ j k, j ≠ 7 → j ≠ 8 → j ≠ 2 → S'.1 r j k = S.1 r j k) ∧ S'.1 r 2 0 = nI N ∧ rChain (S'.1 r) N := by
  intro d
  induction d with
  | zero =>
    intro i f S e hf hN1 hc
    obtain ⟨f, rfl⟩ : ∃ f', f = f' + 1 := ⟨f - 1, by omega⟩
    have e0 : i = 1021 := by omega
    subst e0
    rw [G_XModel_begin_2, if_pos (by decide), rI h (by decide), rP h (by decide), hN1]
    have hv : ∀ j k, ((up3 S.1 r 2 0 (nI N), S.2) : qS).1 r j k = if j = 2 ∧ k = 0 then nI N else S.1 r j k := fun j k => up3_at _ _ _ _ _ _ _
    have hol : rOnly r S (up3 S.1 r 2 0 (nI N), S.2) := rOnly.up
    generalize ((up3 S.1 r 2 0 (nI N), S.2) : qS) = S1 at hv hol ⊢
    have hch : rChain (S1.1 r) 0 := by
      refine ⟨fun hh hb => ?_, fun i hi => absurd hi (Nat.not_lt_zero i)⟩
      rw [hv, if_neg (fun q => absurd q.1 (by decide))]
      exact hc hh hb
    obtain ⟨S2, e2, o2, s2, c2⟩ := ref_begin_32 (O := O) (n := n) h hN N 0 n S1 (by omega) (by omega) (by rw [hv, if_neg (fun q => absurd q.1 (by decide))]; exact hN1) hch
    rw [nI_0] at e2
    refine ⟨S2, e2, hol.trans o2, fun j k h7 h8 h2 => ?_, ?_, c2⟩
    · rw [s2 j k h7 h8, hv, if_neg (fun q => h2 q.1)]
    · rw [s2 2 0 (by decide) (by decide), hv, if_pos ⟨rfl, rfl⟩]
  | succ d ih =>
    intro i f S e hf hN1 hc
    obtain ⟨f, rfl⟩ : ∃ f', f = f' + 1 := ⟨f - 1, by omega⟩
    have hi : i < 1021 := by omega
    have h21 : ¬ (1021 : Int32) ≤ nI i := nI_ge (b := 1021) hi (by decide)
    rw [G_XModel_begin_2, if_neg h21, rA h (by decide), rw' h (by decide) (by decide) (show i < refN 7 from hi), hB_eq, nI_1]
    have hv : ∀ j k, ((up3 S.1 r 7 i (-1), S.2) : qS).1 r j k = if j = 7 ∧ k = i then -1 else S.1 r j k := fun j k => up3_at _ _ _ _ _ _ _
    have hol : rOnly r S (up3 S.1 r 7 i (-1), S.2) := rOnly.up
    generalize ((up3 S.1 r 7 i (-1), S.2) : qS) = S1 at hv hol ⊢
    obtain ⟨S2, e2, o2, s2, n2, c2⟩ := ih (i + 1) f S1 (by omega) (by omega) (by rw [hv, if_neg (fun q => absurd q.1 (by decide))]; exact hN1) (fun hh hb => by
      rw [hv]
      by_cases e9 : hh = i
      · rw [if_pos ⟨rfl, e9⟩]
      · rw [if_neg (fun q => e9 q.2)]
        exact hc hh (by omega))
    refine ⟨S2, e2, hol.trans o2, fun j k h7 h8 h2 => ?_, n2, c2⟩
    rw [s2 j k h7 h8 h2, hv, if_neg (fun q => h7 q.1)]
/-- begin: the chains hold the face's rows -/
theorem ref_begin {O : qOb9} {r n N : Nat} {S : qS} (h : Ref O r) (hN : N < 6400) (hn : 7000 ≤ n) (hS : S.1 r 1 0 = nI N) : ∃ S', G_XModel_begin O n r S = some ((), S') ∧ rOnly r S S' ∧ (∀ j k, j ≠ 7 → j ≠ 8 → j ≠ 2 → S'.1 r j k = S.1 r j k) ∧ S'.1 r 2 0 = nI N ∧ rChain (S'.1 r) N := by
  unfold G_XModel_begin
  rw [← nI_0]
  exact ref_begin_2 h hN hn 1021 0 n S (by omega) (by omega) hS (fun hh hb => absurd hb (Nat.not_lt_zero hh))
/-- the last of the first N rows that is this one, or NONE -/
def rowIs (σ : Nat → Nat → Int32) (k a b c : Int32) (i : Nat) : Prop := σ 3 i = k ∧ σ 4 i = a ∧ σ 5 i = b ∧ σ 6 i = c
theorem rowIs_hash {σ : Nat → Nat → Int32} {k a b c : Int32} {i : Nat} (h : rowIs σ k a b c i) : rowH σ i = rH k a b c := by
  obtain ⟨h1, h2, h3, h4⟩ := h
  unfold rowH
  rw [h1, h2, h3, h4]
/-- find's walk down a chain: from the top of the first i rows -/
theorem ref_find_15 {O : qOb9} {r n N : Nat} {k a b c : Int32} {S : qS} (h : Ref O r) (hN : N ≤ 6400) (hc : rChain (S.1 r) N) : ∀ (i f : Nat), i ≤ N → i < f →
    ∃ v, G_XModel_find_15 O n f r k a b c (rTop (S.1 r) (rH k a b c) i) S = some (v, S) ∧ ((v = -1 ∧ ∀ q, q < i → ¬ rowIs (S.1 r) k a b c q) ∨ ∃ q, q < i ∧ v = nI q ∧ rowIs (S.1 r) k a b c q) := by
  intro i
  induction i with
  | zero =>
    intro f _ hf
    obtain ⟨f, rfl⟩ : ∃ f', f = f' + 1 := ⟨f - 1, by omega⟩
    rw [rTop, G_XModel_find_15, if_pos (by decide)]
    exact ⟨-1, rfl, Or.inl ⟨rfl, fun q hq => absurd hq (Nat.not_lt_zero q)⟩⟩
  | succ i ih =>
    intro f hi hf
    unfold rTop
    by_cases e : rowH (S.1 r) i = rH k a b c
    · rw [if_pos e]
      obtain ⟨f, rfl⟩ : ∃ f', f = f' + 1 := ⟨f - 1, by omega⟩
      have i0 : i < 6400 := by omega
      have i3 : i < refN 3 := i0
      have i4 : i < refN 4 := i0
      have i5 : i < refN 5 := i0
      have i6 : i < refN 6 := i0
      have i8 : i < refN 8 := i0
      obtain ⟨v, e1, hv⟩ := ih f (by omega) (by omega)
      have go : ¬ rowIs (S.1 r) k a b c i → ∃ v, G_XModel_find_65 O n (G_XModel_find_15 O n f) r k a b c (nI i) S = some (v, S) ∧ ((v = -1 ∧ ∀ q, q < i + 1 → ¬ rowIs (S.1 r) k a b c q) ∨ ∃ q, q < i + 1 ∧ v = nI q ∧ rowIs (S.1 r) k a b c q) := by
        intro hno
        refine ⟨v, ?_, ?_⟩
        · unfold G_XModel_find_65
          rw [rA h (by decide), rl h (by decide) (by decide) i8, hc.2 i (by omega), e]
          exact e1
        · rcases hv with ⟨h1, h2⟩ | ⟨q, h1, h2, h3⟩
          · refine Or.inl ⟨h1, fun q hq => ?_⟩
            rcases Nat.lt_succ_iff_lt_or_eq.mp hq with hq | hq
            · exact h2 q hq
            · rw [hq]; exact hno
          · exact Or.inr ⟨q, by omega, h2, h3⟩
      rw [G_XModel_find_15, if_neg (nI_pos (by omega)), rA h (by decide), rl h (by decide) (by decide) i3]
      by_cases g1 : S.1 r 3 i = k
      · rw [if_pos g1, rA h (by decide), rl h (by decide) (by decide) i4]
        by_cases g2 : S.1 r 4 i = a
        · rw [if_pos g2, rA h (by decide), rl h (by decide) (by decide) i5]
          by_cases g3 : S.1 r 5 i = b
          · rw [if_pos g3, rA h (by decide), rl h (by decide) (by decide) i6]
            by_cases g4 : S.1 r 6 i = c
            · rw [if_pos g4]
              exact ⟨nI i, rfl, Or.inr ⟨i, Nat.lt_succ_self i, rfl, g1, g2, g3, g4⟩⟩
            · rw [if_neg g4]; exact go fun q => g4 q.2.2.2
          · rw [if_neg g3]; exact go fun q => g3 q.2.2.1
        · rw [if_neg g2]; exact go fun q => g2 q.2.1
      · rw [if_neg g1]; exact go fun q => g1 q.1
    · rw [if_neg e]
      obtain ⟨v, e1, hv⟩ := ih f (by omega) (by omega)
      refine ⟨v, e1, ?_⟩
      rcases hv with ⟨h1, h2⟩ | ⟨q, h1, h2, h3⟩
      · refine Or.inl ⟨h1, fun q hq hr => ?_⟩
        rcases Nat.lt_succ_iff_lt_or_eq.mp hq with hq | hq
        · exact h2 q hq hr
        · rw [hq] at hr; exact e (rowIs_hash hr)
      · exact Or.inr ⟨q, by omega, h2, h3⟩
theorem ref_find {O : qOb9} {r n N : Nat} {k a b c : Int32} {S : qS} (h : Ref O r) (hN : N ≤ 6400) (hn : 7000 ≤ n) (hc : rChain (S.1 r) N) :
    ∃ v, G_XModel_find O n r k a b c S = some (v, S) ∧ ((v = -1 ∧ ∀ q, q < N → ¬ rowIs (S.1 r) k a b c q) ∨ ∃ q, q < N ∧ v = nI q ∧ rowIs (S.1 r) k a b c q) := by
  unfold G_XModel_find
  rw [rA h (by decide), ref_chainOf, yC_some, rH_eq, rl h (by decide) (by decide) (show rH k a b c < refN 7 from rH_lt k a b c), hc.1 _ (rH_lt k a b c)]
  exact ref_find_15 h hN hc N n (Nat.le_refl _) (by omega)
