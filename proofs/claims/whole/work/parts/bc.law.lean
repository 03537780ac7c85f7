/-! THE LAW'S LOOP -/
theorem cI_some {v : Int32} {M : PM} {k : Int32 → PM → qO} : cI (some (.inl (some (.int v)), M)) k = k v M := rfl
theorem lg_same (a : Int64) : lg_cmp a a = 0 := by
  unfold lg_cmp
  rw [if_neg (fun h => by rw [gt_iff_lt, Int64.lt_iff_toInt_lt] at h; omega), if_pos rfl]
theorem sc_at {xs : Nat → Int32} {L i : Nat} (h : i < L) (h2 : i < 2 ^ 31) {k : Int32 → qO} : sc xs L (nI i) k = k (xs i) := by
  unfold sc
  rw [nI_clamp h2, if_pos ⟨nI_pos h2, h⟩]
theorem nI_p2 (a : Nat) : nI a + (2 : Int32) = nI (a + 2) := nI_add' a 2
theorem nI_p3 (a : Nat) : nI a + (3 : Int32) = nI (a + 3) := nI_add' a 3
theorem nI_p4 (a : Nat) : nI a + (4 : Int32) = nI (a + 4) := nI_add' a 4
/-- an array of longs beside what has a name -/
def Bes (O : qOb9) (l3 : Nat) : Prop := ∀ o ci j, oC O o = ci + 1 → qKd ci j < 3 → l3 ≠ oA O o j
def L3 (M : PM) (l3 : Nat) : Prop := mK M l3 = 2 ∧ mN M l3 = 1
section LAW
variable {O : qOb9} {x c u p f w q s l r n l3 : Nat} {M : PM} {S : qS}
theorem Rp_sL (hR : Rp O M S) (h3 : Bes O l3) {i : Nat} {v : Int64} : Rp O (sL M l3 i v) S := by
  intro o ci hc
  obtain ⟨r1, r2⟩ := hR o ci hc
  refine ⟨r1, fun j => ⟨(r2 j).1, (r2 j).2.1, fun hj => ?_⟩⟩
  obtain ⟨a1, a2, a3, a4, a5⟩ := (r2 j).2.2 hj
  refine ⟨a1, a2, a3, a4, fun i' => ?_⟩
  have : mL (sL M l3 i v) (oA O o j) = mL M (oA O o j) := up2_nf (fun z => h3 o ci j hc hj z.symm)
  rw [this]; exact a5 i'
theorem L3_Fm {M' : PM} (hF : Fm O M M') (h : L3 M l3) : L3 M' l3 := by
  unfold L3
  rw [hF.2.1, hF.2.2.1]; exact h
theorem L3_FmX {b : Bool} {M' : PM} (hF : Fm O (qX0 b M) M') (h : L3 M l3) : L3 M' l3 := L3_Fm hF (by cases b <;> exact h)
/-- the class's call, and what it leaves for the law -/
theorem lw_class (h3 : Bes O l3) (hR : Rp O M S) (hl : L3 M l3) (hx : oC O x = 1 + 1) {F : qO} {y1 : Option ((Int32 ⊕ String) × qS)} (hS : Sim (eX eI) O M F y1) {y2 : qS → Option (Int32 × qS)} {tb : List (String × Int32)} {P : qS → Prop} (hc : CallOk y1 y2 tb r P) {k : Int32 → PM → qO} (wr : Int32 → Int64) (hk : ∀ v M1, k v M1 = wL M1 l3 0 (wr v) (fun M3 => some (.inl (some (.int 0)), M3))) :
    ∃ v5 M4 S1 v S2, kO 1 M x (xI F tb k) = some (.inl (some (.int v5)), M4) ∧ Rp O M4 S1 ∧ L3 M4 l3 ∧ y2 S1 = some (v, S2) ∧ P S2 ∧ S2.1 r 0 0 = v5 ∧ (v5 = 0 → mL M4 l3 0 = wr v) ∧ mC M4 ≤ mC M + 1 ∧ mT M4 ≤ mT M + 6 := by
  obtain ⟨res, S1, v, S2, e1, e2, hP, hcase⟩ := hc
  obtain ⟨M', ex, hR', hF⟩ := hS res S1 e1
  have hk0 : kO 1 M x (xI F tb k) = xI F tb k := if_pos (hR x 1 hx).1
  have l3' := L3_FmX hF hl
  rcases hcase with ⟨rfl, h0⟩ | ⟨e, t, rfl, ht, h0, hne⟩
  · have hF' : Fm O M M' := hF
    have ex' : F = some (.inl (some (.int v)), M') := ex
    refine ⟨0, sL M' l3 0 (wr v), S1, v, S2, ?_, Rp_sL hR' h3, l3', e2, hP, h0, fun _ => ?_, ?_, ?_⟩
    · rw [hk0, ex']
      show k v M' = _
      rw [hk, ← nI_0, wL_eq l3'.1 (by rw [l3'.2]; decide) (by rw [l3'.2]; decide)]
    · show up2 (mL M') l3 0 (wr v) l3 0 = wr v
      rw [up2_sm, if_pos rfl]
    · show mC M' ≤ _
      rw [hF'.2.2.2.1]; omega
    · show mT M' ≤ _
      rw [hF'.2.2.2.2.1]; omega
  · have hF' : Fm O (nX M) M' := hF
    have ex' : F = some (.inr e, M') := ex
    refine ⟨t.2, M', S1, v, S2, ?_, hR', l3', e2, hP, h0, fun z => absurd z hne, ?_, ?_⟩
    · rw [hk0, ex']
      show ((match tb.find? (fun q => q.1 == e) with | some q => some (.inl (some (.int q.2)), M') | none => none) : qO) = _
      rw [ht]
    · rw [hF'.2.2.2.1]; exact Nat.le_refl _
    · rw [hF'.2.2.2.2.1]; exact Nat.le_refl _
/-- the reference's call, and what it threw -/
theorem lw_ref (hok : okO O) (h3 : Bes O l3) (hR : Rp O M S) (hl : L3 M l3) (hr : Ref O r) {F2 : qO} {y : Option (Int32 × qS)} (hS : Sim eI O M F2 y) {v : Int32} {S2 : qS} (e2 : y = some (v, S2)) {v5 : Int32} (h5 : S2.1 r 0 0 = v5) :
    ∃ M8, (∀ B : Int32 → Int32 → PM → qO, kO 0 M r (cI F2 (fun v7 M6 => kO 0 M6 r (cI (F_XModel_thrown n r M6) (fun v9 M8 => B v7 v9 M8)))) = B v v5 M8) ∧ Rp O M8 S2 ∧ L3 M8 l3 ∧ mL M8 l3 0 = mL M l3 0 ∧ mC M8 = mC M ∧ mT M8 = mT M := by
  obtain ⟨M6, ex, hR6, hF6⟩ := hS v S2 e2
  have hF6' : Fm O M M6 := hF6
  have eg : G_XModel_thrown O n r S2 = some (v5, S2) := by
    unfold G_XModel_thrown
    rw [rI hr (by decide), h5]
  obtain ⟨M8, ex8, hR8, hF8⟩ := S_XModel_thrown hok (n := n) (l0 := r) hR6 Fm.refl v5 S2 eg
  have hF8' : Fm O M6 M8 := hF8
  have h0 := Ref_C hr
  refine ⟨M8, fun B => ?_, hR8, L3_Fm hF8' (L3_Fm hF6' hl), ?_, ?_, ?_⟩
  · have k1 : ∀ z, kO 0 M r z = z := fun z => if_pos (hR r 0 h0).1
    have k2 : ∀ z, kO 0 M6 r z = z := fun z => if_pos (hR6 r 0 h0).1
    have ex' : F2 = some (.inl (some (.int v)), M6) := ex
    have ex8' : F_XModel_thrown n r M6 = some (.inl (some (.int v5)), M8) := ex8
    rw [k1, ex', cI_some, k2, ex8', cI_some]
  · rw [(hF8'.2.2.2.2.2.1 l3 (fun o ci j hc hj => h3 o ci j hc hj)).2, (hF6'.2.2.2.2.2.1 l3 (fun o ci j hc hj => h3 o ci j hc hj)).2]
  · rw [hF8'.2.2.2.1, hF6'.2.2.2.1]
  · rw [hF8'.2.2.2.2.1, hF6'.2.2.2.2.1]
theorem lw_lL (hl : L3 M l3) {k : Int64 → qO} : lL M l3 0 k = k (mL M l3 0) := by
  rw [← nI_0, lL_eq hl.1 (by rw [hl.2]; decide) (by rw [hl.2]; decide)]
/-- alike: the law goes on -/
theorem lw_cmp (hl : L3 M l3) {v5 v : Int32} (h : v5 = 0 → mL M l3 0 = v.toInt64) {R Z : qO} : (if v5 = v5 then (if v5 = 0 then lL M l3 0 (fun y => if lg_cmp y v.toInt64 = 0 then R else Z) else R) else Z) = R := by
  rw [if_pos rfl]
  by_cases z : v5 = 0
  · rw [if_pos z, lw_lL hl, h z, lg_same, if_pos rfl]
  · rw [if_neg z]
theorem lw_cmpB (hl : L3 M l3) {v5 v : Int32} (h : v5 = 0 → mL M l3 0 = if v = 0 then 0 else 1) {R Z : qO} : (if v5 = v5 then (if v5 = 0 then lL M l3 0 (fun y => if v = 0 then (if lg_cmp y 0 = 0 then R else Z) else (if lg_cmp y 1 = 0 then R else Z)) else R) else Z) = R := by
  rw [if_pos rfl]
  by_cases z : v5 = 0
  · rw [if_pos z, lw_lL hl, h z]
    by_cases y : v = 0
    · rw [if_pos y, if_pos y, lg_same, if_pos rfl]
    · rw [if_neg y, if_neg y, lg_same, if_pos rfl]
  · rw [if_neg z]
/-- one turn of the law's loop -/
def LwT (O : qOb9) (x c u p f w q s l r l3 : Nat) (xs : Nat → Int32) (L n fu pos : Nat) (M : PM) : Prop :=
  ∃ M8 S8, F_XLaw_law_23 xs L n (fu + 1) x r l3 (nI pos) M = F_XLaw_law_23 xs L n fu x r l3 (nI (pos + 4)) M8 ∧ Rp O M8 S8 ∧ L3 M8 l3 ∧ JE O x c u p f w q s l r S8 ∧ mC M8 ≤ mC M + 1 ∧ mT M8 ≤ mT M + 6
theorem lw_pos {L pos : Nat} (hL : L ≤ 2048) (hp : pos < 2 ^ 31) : (nI L - (4 : Int32) < nI pos) ↔ L < pos + 4 := by
  by_cases h4 : 4 ≤ L
  · have e : nI L - (4 : Int32) = nI (L - 4) := nI_sub (a := L) (b := 4) h4
    rw [e, nI_ltI (by omega) hp]
    omega
  · refine ⟨fun _ => by omega, fun _ => ?_⟩
    refine Int32.lt_of_lt_of_le (b := 0) ?_ (nI_pos' hp)
    rcases (show L = 0 ∨ L = 1 ∨ L = 2 ∨ L = 3 by omega) with y | y | y | y <;> rw [y] <;> decide
theorem lw_turn (hok : okO O) (h3 : Bes O l3) (hR : Rp O M S) (hl : L3 M l3) (hJE : JE O x c u p f w q s l r S) (hn : 3000000 ≤ n) {xs : Nat → Int32} {L fu pos : Nat} (hL : L ≤ 2048) (hp : pos + 4 ≤ L) : LwT O x c u p f w q s l r l3 xs L n fu pos M := by
  obtain ⟨E, N, A, I, eS, hJ⟩ := hJE
  have hn7 : 7000 ≤ n := by omega
  have hx : oC O x = 1 + 1 := hJ.1.1.1
  have hr := hJ.2.1
  have s0 : ∀ {k : Int32 → qO}, sc xs L (nI pos) k = k (xs pos) := sc_at (by omega) (by omega)
  have s1 : ∀ {k : Int32 → qO}, sc xs L (nI pos + (1 : Int32)) k = k (xs (pos + 1)) := fun {k} => by rw [nI_1]; exact sc_at (by omega) (by omega)
  have s2 : ∀ {k : Int32 → qO}, sc xs L (nI pos + (2 : Int32)) k = k (xs (pos + 2)) := fun {k} => by rw [nI_p2]; exact sc_at (by omega) (by omega)
  have s3 : ∀ {k : Int32 → qO}, sc xs L (nI pos + (3 : Int32)) k = k (xs (pos + 3)) := fun {k} => by rw [nI_p3]; exact sc_at (by omega) (by omega)
  have go : ∀ M8, F_XLaw_law_1067 xs L n (F_XLaw_law_23 xs L n fu) x r l3 (nI pos) M8 = F_XLaw_law_23 xs L n fu x r l3 (nI (pos + 4)) M8 := fun M8 => by
    unfold F_XLaw_law_1067 bI
    rw [nI_p4]
  have e0 : ¬ nI L - (4 : Int32) < nI pos := fun z => by have := (lw_pos hL (by omega)).mp z; omega
  unfold LwT
  rw [F_XLaw_law_23, if_neg e0, s0]
  by_cases c0 : (xs pos &&& (15 : Int32)) = (0 : Int32)
  · rw [if_pos c0]
    obtain ⟨v5, M4, S1, v, S2, a1, a2, a3, a4, a5, a6, a7, a8, a9⟩ := lw_class h3 hR hl hx (S_X_word hok (n := n) hR Fm.refl) (J_word hJ hn7) (fun v => v.toInt64) (fun _ _ => rfl)
    have a1' : F_XLaw_word n x l3 M = some (.inl (some (.int v5)), M4) := a1
    obtain ⟨M8, b1, b2, b3, b4, b5, b6⟩ := lw_ref hok h3 a2 a3 hr (S_XModel_word hok (n := n) (l0 := r) a2 Fm.refl) a4 (n := n) a6
    refine ⟨M8, S2, ?_, b2, b3, a5, by omega, by omega⟩
    rw [a1', cI_some, b1]
    unfold F_XLaw_law_157
    rw [go]
    exact lw_cmp b3 (fun z => by rw [b4]; exact a7 z)
  rw [if_neg c0]
  by_cases c1 : (xs pos &&& (15 : Int32)) = (1 : Int32)
  · rw [if_pos c1]
    obtain ⟨v5, M4, S1, v, S2, a1, a2, a3, a4, a5, a6, a7, a8, a9⟩ := lw_class h3 hR hl hx (S_X_truth hok (n := n) hR Fm.refl) (J_truth hJ hn7) (fun v => v.toInt64) (fun _ _ => rfl)
    have a1' : F_XLaw_truth n x l3 M = some (.inl (some (.int v5)), M4) := a1
    obtain ⟨M8, b1, b2, b3, b4, b5, b6⟩ := lw_ref hok h3 a2 a3 hr (S_XModel_truth hok (n := n) (l0 := r) a2 Fm.refl) a4 (n := n) a6
    refine ⟨M8, S2, ?_, b2, b3, a5, by omega, by omega⟩
    rw [a1', cI_some, b1]
    unfold F_XLaw_law_201
    rw [go]
    exact lw_cmp b3 (fun z => by rw [b4]; exact a7 z)
  rw [if_neg c1]
  by_cases c2 : (xs pos &&& (15 : Int32)) = (2 : Int32)
  · rw [if_pos c2]
    obtain ⟨v5, M4, S1, v, S2, a1, a2, a3, a4, a5, a6, a7, a8, a9⟩ := lw_class h3 hR hl hx (S_X_apply hok (n := n) hR Fm.refl) (J_apply hJ hn7 (xs (pos + 1)) (xs (pos + 2)) (xs (pos + 3))) (fun v => v.toInt64) (fun _ _ => rfl)
    have a1' : F_XLaw_apply n x (xs (pos + 1)) (xs (pos + 2)) (xs (pos + 3)) l3 M = some (.inl (some (.int v5)), M4) := a1
    obtain ⟨M8, b1, b2, b3, b4, b5, b6⟩ := lw_ref hok h3 a2 a3 hr (S_XModel_apply hok (n := n) (l0 := r) a2 Fm.refl) a4 (n := n) a6
    refine ⟨M8, S2, ?_, b2, b3, a5, by omega, by omega⟩
    rw [s1, s2, s3, a1', cI_some, s1, s2, s3, b1]
    unfold F_XLaw_law_281
    rw [go]
    exact lw_cmp b3 (fun z => by rw [b4]; exact a7 z)
  rw [if_neg c2]
  by_cases c3 : (xs pos &&& (15 : Int32)) = (3 : Int32)
  · rw [if_pos c3]
    obtain ⟨v5, M4, S1, v, S2, a1, a2, a3, a4, a5, a6, a7, a8, a9⟩ := lw_class h3 hR hl hx (S_X_equal hok (n := n) hR Fm.refl) (J_equal hJ hn7 (xs (pos + 1)) (xs (pos + 2))) (fun v => v.toInt64) (fun _ _ => rfl)
    have a1' : F_XLaw_equal n x (xs (pos + 1)) (xs (pos + 2)) l3 M = some (.inl (some (.int v5)), M4) := a1
    obtain ⟨M8, b1, b2, b3, b4, b5, b6⟩ := lw_ref hok h3 a2 a3 hr (S_XModel_equal hok (n := n) (l0 := r) a2 Fm.refl) a4 (n := n) a6
    refine ⟨M8, S2, ?_, b2, b3, a5, by omega, by omega⟩
    rw [s1, s2, a1', cI_some, s1, s2, b1]
    unfold F_XLaw_law_349
    rw [go]
    exact lw_cmp b3 (fun z => by rw [b4]; exact a7 z)
  rw [if_neg c3]
  by_cases c4 : (xs pos &&& (15 : Int32)) = (4 : Int32)
  · rw [if_pos c4]
    obtain ⟨v5, M4, S1, v, S2, a1, a2, a3, a4, a5, a6, a7, a8, a9⟩ := lw_class h3 hR hl hx (S_X_not hok (n := n) hR Fm.refl) (J_not hJ hn7 (xs (pos + 1))) (fun v => v.toInt64) (fun _ _ => rfl)
    have a1' : F_XLaw_not n x (xs (pos + 1)) l3 M = some (.inl (some (.int v5)), M4) := a1
    obtain ⟨M8, b1, b2, b3, b4, b5, b6⟩ := lw_ref hok h3 a2 a3 hr (S_XModel_not hok (n := n) (l0 := r) a2 Fm.refl) a4 (n := n) a6
    refine ⟨M8, S2, ?_, b2, b3, a5, by omega, by omega⟩
    rw [s1, a1', cI_some, s1, b1]
    unfold F_XLaw_law_405
    rw [go]
    exact lw_cmp b3 (fun z => by rw [b4]; exact a7 z)
  rw [if_neg c4]
  by_cases c5 : (xs pos &&& (15 : Int32)) = (5 : Int32)
  · rw [if_pos c5]
    obtain ⟨v5, M4, S1, v, S2, a1, a2, a3, a4, a5, a6, a7, a8, a9⟩ := lw_class h3 hR hl hx (S_X_both hok (n := n) hR Fm.refl) (J_both hJ hn7 (xs (pos + 1)) (xs (pos + 2))) (fun v => v.toInt64) (fun _ _ => rfl)
    have a1' : F_XLaw_both n x (xs (pos + 1)) (xs (pos + 2)) l3 M = some (.inl (some (.int v5)), M4) := a1
    obtain ⟨M8, b1, b2, b3, b4, b5, b6⟩ := lw_ref hok h3 a2 a3 hr (S_XModel_both hok (n := n) (l0 := r) a2 Fm.refl) a4 (n := n) a6
    refine ⟨M8, S2, ?_, b2, b3, a5, by omega, by omega⟩
    rw [s1, s2, a1', cI_some, s1, s2, b1]
    unfold F_XLaw_law_473
    rw [go]
    exact lw_cmp b3 (fun z => by rw [b4]; exact a7 z)
  rw [if_neg c5]
  by_cases c6 : (xs pos &&& (15 : Int32)) = (6 : Int32)
  · rw [if_pos c6]
    obtain ⟨v5, M4, S1, v, S2, a1, a2, a3, a4, a5, a6, a7, a8, a9⟩ := lw_class h3 hR hl hx (S_X_choice hok (n := n) hR Fm.refl) (J_choice hJ hn7 (xs (pos + 1)) (xs (pos + 2)) (xs (pos + 3))) (fun v => v.toInt64) (fun _ _ => rfl)
    have a1' : F_XLaw_choice n x (xs (pos + 1)) (xs (pos + 2)) (xs (pos + 3)) l3 M = some (.inl (some (.int v5)), M4) := a1
    obtain ⟨M8, b1, b2, b3, b4, b5, b6⟩ := lw_ref hok h3 a2 a3 hr (S_XModel_choice hok (n := n) (l0 := r) a2 Fm.refl) a4 (n := n) a6
    refine ⟨M8, S2, ?_, b2, b3, a5, by omega, by omega⟩
    rw [s1, s2, s3, a1', cI_some, s1, s2, s3, b1]
    unfold F_XLaw_law_553
    rw [go]
    exact lw_cmp b3 (fun z => by rw [b4]; exact a7 z)
  rw [if_neg c6]
  by_cases c7 : (xs pos &&& (15 : Int32)) = (7 : Int32)
  · rw [if_pos c7]
    have hkB : ∀ (v : Int32) (M1 : PM), (fun v2 M1 => if v2 = (0 : Int32) then F_XLaw_next_16 n l3 (0 : Int32) (0 : Int64) M1 else F_XLaw_next_16 n l3 (0 : Int32) (1 : Int64) M1) v M1 = wL M1 l3 0 ((fun v : Int32 => if v = 0 then (0 : Int64) else 1) v) (fun M3 => some (.inl (some (.int 0)), M3)) := fun v M1 => by
      show (if v = (0 : Int32) then F_XLaw_next_16 n l3 (0 : Int32) (0 : Int64) M1 else F_XLaw_next_16 n l3 (0 : Int32) (1 : Int64) M1) = wL M1 l3 0 (if v = 0 then (0 : Int64) else 1) _
      by_cases z : v = 0
      · rw [if_pos z, if_pos z]; rfl
      · rw [if_neg z, if_neg z]; rfl
    obtain ⟨v5, M4, S1, v, S2, a1, a2, a3, a4, a5, a6, a7, a8, a9⟩ := lw_class h3 hR hl hx (S_X_next hok (n := n) hR Fm.refl) (J_next hJ hn7 (xs (pos + 1)) (xs (pos + 2))) (k := fun v2 M1 => if v2 = (0 : Int32) then F_XLaw_next_16 n l3 (0 : Int32) (0 : Int64) M1 else F_XLaw_next_16 n l3 (0 : Int32) (1 : Int64) M1) (fun v : Int32 => if v = 0 then (0 : Int64) else 1) hkB
    have a1' : F_XLaw_next n x (xs (pos + 1)) (xs (pos + 2)) l3 M = some (.inl (some (.int v5)), M4) := a1
    obtain ⟨M8, b1, b2, b3, b4, b5, b6⟩ := lw_ref hok h3 a2 a3 hr (S_XModel_next hok (n := n) (l0 := r) a2 Fm.refl) a4 (n := n) a6
    refine ⟨M8, S2, ?_, b2, b3, a5, by omega, by omega⟩
    rw [s1, s2, a1', cI_some, s1, s2, b1]
    unfold F_XLaw_law_622 F_XLaw_law_628
    rw [go]
    exact lw_cmpB b3 (fun z => by rw [b4]; exact a7 z)
  rw [if_neg c7]
  by_cases c8 : (xs pos &&& (15 : Int32)) = (8 : Int32)
  · rw [if_pos c8]
    have hkB : ∀ (v : Int32) (M1 : PM), (fun v2 M1 => if v2 = (0 : Int32) then F_XLaw_plain_16 n l3 (0 : Int32) (0 : Int64) M1 else F_XLaw_plain_16 n l3 (0 : Int32) (1 : Int64) M1) v M1 = wL M1 l3 0 ((fun v : Int32 => if v = 0 then (0 : Int64) else 1) v) (fun M3 => some (.inl (some (.int 0)), M3)) := fun v M1 => by
      show (if v = (0 : Int32) then F_XLaw_plain_16 n l3 (0 : Int32) (0 : Int64) M1 else F_XLaw_plain_16 n l3 (0 : Int32) (1 : Int64) M1) = wL M1 l3 0 (if v = 0 then (0 : Int64) else 1) _
      by_cases z : v = 0
      · rw [if_pos z, if_pos z]; rfl
      · rw [if_neg z, if_neg z]; rfl
    obtain ⟨v5, M4, S1, v, S2, a1, a2, a3, a4, a5, a6, a7, a8, a9⟩ := lw_class h3 hR hl hx (S_X_plain hok (n := n) hR Fm.refl) (J_plain hJ hn7 (xs (pos + 1)) (xs (pos + 2))) (k := fun v2 M1 => if v2 = (0 : Int32) then F_XLaw_plain_16 n l3 (0 : Int32) (0 : Int64) M1 else F_XLaw_plain_16 n l3 (0 : Int32) (1 : Int64) M1) (fun v : Int32 => if v = 0 then (0 : Int64) else 1) hkB
    have a1' : F_XLaw_plain n x (xs (pos + 1)) (xs (pos + 2)) l3 M = some (.inl (some (.int v5)), M4) := a1
    obtain ⟨M8, b1, b2, b3, b4, b5, b6⟩ := lw_ref hok h3 a2 a3 hr (S_XModel_plain hok (n := n) (l0 := r) a2 Fm.refl) a4 (n := n) a6
    refine ⟨M8, S2, ?_, b2, b3, a5, by omega, by omega⟩
    rw [s1, s2, a1', cI_some, s1, s2, b1]
    unfold F_XLaw_law_697 F_XLaw_law_703
    rw [go]
    exact lw_cmpB b3 (fun z => by rw [b4]; exact a7 z)
  rw [if_neg c8]
  by_cases c9 : (xs pos &&& (15 : Int32)) = (9 : Int32)
  · rw [if_pos c9]
    obtain ⟨v5, M4, S1, v, S2, a1, a2, a3, a4, a5, a6, a7, a8, a9⟩ := lw_class h3 hR hl hx (S_X_invariant hok (n := n) hR Fm.refl) (J_invariant hJ hn7 (xs (pos + 1))) (fun v => v.toInt64) (fun _ _ => rfl)
    have a1' : F_XLaw_invariant n x (xs (pos + 1)) l3 M = some (.inl (some (.int v5)), M4) := a1
    obtain ⟨M8, b1, b2, b3, b4, b5, b6⟩ := lw_ref hok h3 a2 a3 hr (S_XModel_invariant hok (n := n) (l0 := r) a2 Fm.refl) a4 (n := n) a6
    refine ⟨M8, S2, ?_, b2, b3, a5, by omega, by omega⟩
    rw [s1, a1', cI_some, s1, b1]
    unfold F_XLaw_law_759
    rw [go]
    exact lw_cmp b3 (fun z => by rw [b4]; exact a7 z)
  rw [if_neg c9]
  by_cases c10 : (xs pos &&& (15 : Int32)) = (10 : Int32)
  · rw [if_pos c10]
    obtain ⟨v5, M4, S1, v, S2, a1, a2, a3, a4, a5, a6, a7, a8, a9⟩ := lw_class h3 hR hl hx (S_X_run hok (n := n) hR Fm.refl) (J_run hJ hn (xs (pos + 1))) (fun v => v.toInt64) (fun _ _ => rfl)
    have a1' : F_XLaw_run n x (xs (pos + 1)) l3 M = some (.inl (some (.int v5)), M4) := a1
    obtain ⟨M8, b1, b2, b3, b4, b5, b6⟩ := lw_ref hok h3 a2 a3 hr (S_XModel_run hok (n := n) (l0 := r) a2 Fm.refl) a4 (n := n) a6
    refine ⟨M8, S2, ?_, b2, b3, a5, by omega, by omega⟩
    rw [s1, a1', cI_some, s1, b1]
    unfold F_XLaw_law_815
    rw [go]
    exact lw_cmp b3 (fun z => by rw [b4]; exact a7 z)
  rw [if_neg c10]
  by_cases c11 : (xs pos &&& (15 : Int32)) = (11 : Int32)
  · rw [if_pos c11]
    obtain ⟨v5, M4, S1, v, S2, a1, a2, a3, a4, a5, a6, a7, a8, a9⟩ := lw_class h3 hR hl hx (S_X_kept hok (n := n) hR Fm.refl) (J_kept hJ hn (xs (pos + 1))) (fun v => v.toInt64) (fun _ _ => rfl)
    have a1' : F_XLaw_kept n x (xs (pos + 1)) l3 M = some (.inl (some (.int v5)), M4) := a1
    obtain ⟨M8, b1, b2, b3, b4, b5, b6⟩ := lw_ref hok h3 a2 a3 hr (S_XModel_kept hok (n := n) (l0 := r) a2 Fm.refl) a4 (n := n) a6
    refine ⟨M8, S2, ?_, b2, b3, a5, by omega, by omega⟩
    rw [s1, a1', cI_some, s1, b1]
    unfold F_XLaw_law_871
    rw [go]
    exact lw_cmp b3 (fun z => by rw [b4]; exact a7 z)
  rw [if_neg c11]
  by_cases c12 : (xs pos &&& (15 : Int32)) = (12 : Int32)
  · rw [if_pos c12]
    obtain ⟨v5, M4, S1, v, S2, a1, a2, a3, a4, a5, a6, a7, a8, a9⟩ := lw_class h3 hR hl hx (S_X_witness hok (n := n) hR Fm.refl) (J_witness hJ (xs (pos + 1))) (fun v => v.toInt64) (fun _ _ => rfl)
    have a1' : F_XLaw_witness n x (xs (pos + 1)) l3 M = some (.inl (some (.int v5)), M4) := a1
    obtain ⟨M8, b1, b2, b3, b4, b5, b6⟩ := lw_ref hok h3 a2 a3 hr (S_XModel_witness hok (n := n) (l0 := r) a2 Fm.refl) a4 (n := n) a6
    refine ⟨M8, S2, ?_, b2, b3, a5, by omega, by omega⟩
    rw [s1, a1', cI_some, s1, b1]
    unfold F_XLaw_law_927
    rw [go]
    exact lw_cmp b3 (fun z => by rw [b4]; exact a7 z)
  rw [if_neg c12]
  by_cases c13 : (xs pos &&& (15 : Int32)) = (13 : Int32)
  · rw [if_pos c13]
    obtain ⟨v5, M4, S1, v, S2, a1, a2, a3, a4, a5, a6, a7, a8, a9⟩ := lw_class h3 hR hl hx (S_X_differs hok (n := n) hR Fm.refl) (J_differs hJ) (fun v => v.toInt64) (fun _ _ => rfl)
    have a1' : F_XLaw_differs n x l3 M = some (.inl (some (.int v5)), M4) := a1
    obtain ⟨M8, b1, b2, b3, b4, b5, b6⟩ := lw_ref hok h3 a2 a3 hr (S_XModel_differs hok (n := n) (l0 := r) a2 Fm.refl) a4 (n := n) a6
    refine ⟨M8, S2, ?_, b2, b3, a5, by omega, by omega⟩
    rw [a1', cI_some, b1]
    unfold F_XLaw_law_971
    rw [go]
    exact lw_cmp b3 (fun z => by rw [b4]; exact a7 z)
  rw [if_neg c13]
  by_cases c14 : (xs pos &&& (15 : Int32)) = (14 : Int32)
  · rw [if_pos c14]
    obtain ⟨v5, M4, S1, v, S2, a1, a2, a3, a4, a5, a6, a7, a8, a9⟩ := lw_class h3 hR hl hx (S_X_node hok (n := n) hR Fm.refl) (J_node hJ (xs (pos + 1)) (xs (pos + 2))) (fun v => v.toInt64) (fun _ _ => rfl)
    have a1' : F_XLaw_node n x (xs (pos + 1)) (xs (pos + 2)) l3 M = some (.inl (some (.int v5)), M4) := a1
    obtain ⟨M8, b1, b2, b3, b4, b5, b6⟩ := lw_ref hok h3 a2 a3 hr (S_XModel_node hok (n := n) (l0 := r) a2 Fm.refl) a4 (n := n) a6
    refine ⟨M8, S2, ?_, b2, b3, a5, by omega, by omega⟩
    rw [s1, s2, a1', cI_some, s1, s2, b1]
    unfold F_XLaw_law_1039
    rw [go]
    exact lw_cmp b3 (fun z => by rw [b4]; exact a7 z)
  rw [if_neg c14]
  by_cases c15 : (xs pos &&& (15 : Int32)) = (15 : Int32)
  · rw [if_pos c15]
    obtain ⟨v, S2, d1, d2, d3⟩ := J_count hJ hn7 (xs (pos + 1))
    obtain ⟨M4, ex4, hR4, hF4⟩ := S_X_count hok (n := n) (l0 := x) (l1 := xs (pos + 1)) hR Fm.refl v S d1
    obtain ⟨M8, ex8, hR8, hF8⟩ := S_XModel_count hok (n := n) (l0 := r) (l1 := xs (pos + 1)) hR4 Fm.refl v S2 d2
    have hF4' : Fm O M M4 := hF4
    have hF8' : Fm O M4 M8 := hF8
    have ex4' : F_X_count n x (xs (pos + 1)) M = some (.inl (some (.int v)), M4) := ex4
    have ex8' : F_XModel_count n r (xs (pos + 1)) M4 = some (.inl (some (.int v)), M8) := ex8
    have k1 : ∀ z, kO 1 M x z = z := fun z => if_pos (hR x 1 hx).1
    have k2 : ∀ z, kO 0 M4 r z = z := fun z => if_pos (hR4 r 0 (Ref_C hr)).1
    refine ⟨M8, S2, ?_, hR8, L3_Fm hF8' (L3_Fm hF4' hl), d3, by rw [hF8'.2.2.2.1, hF4'.2.2.2.1]; omega, by rw [hF8'.2.2.2.2.1, hF4'.2.2.2.2.1]; omega⟩
    rw [s1, k1, ex4', cI_some, s1, k2, ex8', cI_some, if_pos rfl, go]
  rw [if_neg c15, go]
  exact ⟨M, S, rfl, hR, hl, ⟨E, N, A, I, eS, hJ⟩, by omega, by omega⟩
theorem lw_loop (hok : okO O) (h3 : Bes O l3) (hn : 3000000 ≤ n) {xs : Nat → Int32} {L : Nat} (hL : L ≤ 2048) : ∀ (d pos fu : Nat) (M : PM) (S : qS), L < pos + 4 * (d + 1) → pos ≤ 4096 → d < fu → Rp O M S → L3 M l3 → JE O x c u p f w q s l r S →
    ∃ Mf, F_XLaw_law_23 xs L n fu x r l3 (nI pos) M = some (.inl (some (.int 1)), Mf) ∧ mC Mf ≤ mC M + d ∧ mT Mf ≤ mT M + 6 * d := by
  intro d
  induction d with
  | zero =>
    intro pos fu M S h1 hp hf hR hl hJE
    obtain ⟨fu, rfl⟩ : ∃ z, fu = z + 1 := ⟨fu - 1, by omega⟩
    refine ⟨M, ?_, by omega, by omega⟩
    rw [F_XLaw_law_23, if_pos ((lw_pos hL (by omega)).mpr (by omega))]
  | succ d ih =>
    intro pos fu M S h1 hp hf hR hl hJE
    obtain ⟨fu, rfl⟩ : ∃ z, fu = z + 1 := ⟨fu - 1, by omega⟩
    by_cases z : L < pos + 4
    · refine ⟨M, ?_, by omega, by omega⟩
      rw [F_XLaw_law_23, if_pos ((lw_pos hL (by omega)).mpr z)]
    · obtain ⟨M8, S8, e, b1, b2, b3, b4, b5⟩ := lw_turn hok h3 hR hl hJE hn (xs := xs) (L := L) (fu := fu) (pos := pos) hL (by omega)
      obtain ⟨Mf, g1, g2, g3⟩ := ih (pos + 4) fu M8 S8 (by omega) (by omega) (by omega) b1 b2 b3
      exact ⟨Mf, by rw [e]; exact g1, by omega, by omega⟩
end LAW
