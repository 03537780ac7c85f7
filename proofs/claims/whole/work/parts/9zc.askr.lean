/-! HOW MANY THERE ARE -/
def NumOf (Z : Nat → Prop) (x : Nat) : Prop := ∃ f : Nat → Nat, (∀ i, i < x → Z (f i)) ∧ (∀ i j, i < x → j < x → f i = f j → i = j) ∧ ∀ c, Z c → ∃ i, i < x ∧ f i = c
theorem NumOf_le {Z Z' : Nat → Prop} {x y : Nat} (h : NumOf Z x) (h' : NumOf Z' y) (hz : ∀ c, Z c → Z' c) : x ≤ y := by
  obtain ⟨f, f1, f2, f3⟩ := h
  obtain ⟨g, g1, g2, g3⟩ := h'
  have := cnt_inj (P := tt1) (Q := tt1) (N := x) (M := y) (fun i => Classical.epsilon (fun j => j < y ∧ g j = f i)) (fun i hi _ => ⟨(Classical.epsilon_spec (p := fun j => j < y ∧ g j = f i) (g3 _ (hz _ (f1 i hi)))).1, rfl⟩) (fun i j hi hj _ _ e => by
    have e1 := (Classical.epsilon_spec (p := fun k => k < y ∧ g k = f i) (g3 _ (hz _ (f1 i hi)))).2
    have e2 := (Classical.epsilon_spec (p := fun k => k < y ∧ g k = f j) (g3 _ (hz _ (f1 j hj)))).2
    exact f2 i j hi hj (by rw [← e1, ← e2]; exact congrArg g e))
  rw [cnt_tt, cnt_tt] at this
  exact this
theorem NumOf_eq {Z Z' : Nat → Prop} {x y : Nat} (h : NumOf Z x) (h' : NumOf Z' y) (hz : ∀ c, Z c ↔ Z' c) : x = y := Nat.le_antisymm (NumOf_le h h' (fun c => (hz c).mp)) (NumOf_le h' h (fun c => (hz c).mpr))
/-- nodes that are counted have different codes -/
theorem NumOf_cnt {P : Nat → Bool} {A : Nat} {cf : Nat → Nat} {Z : Nat → Prop} (hi : ∀ m m', m < A → m' < A → cf m = cf m' → m = m') (h1 : ∀ m, m < A → P m = true → Z (cf m)) (h2 : ∀ c, Z c → ∃ m, m < A ∧ P m = true ∧ cf m = c) : NumOf Z (cnt P A) := by
  let nd : Nat → Nat := fun k => Classical.epsilon (fun m => m < A ∧ P m = true ∧ cnt P m = k)
  have sp : ∀ k, k < cnt P A → nd k < A ∧ P (nd k) = true ∧ cnt P (nd k) = k := fun k hk => Classical.epsilon_spec (p := fun m => m < A ∧ P m = true ∧ cnt P m = k) (cnt_hit hk)
  refine ⟨fun k => cf (nd k), fun k hk => h1 _ (sp k hk).1 (sp k hk).2.1, fun k k' hk hk' e => ?_, fun c hc => ?_⟩
  · have := hi _ _ (sp k hk).1 (sp k' hk').1 e
    rw [← (sp k hk).2.2, ← (sp k' hk').2.2, this]
  · obtain ⟨m, hm, hp, e⟩ := h2 c hc
    have hk := cnt_lt hm hp
    refine ⟨cnt P m, hk, ?_⟩
    obtain ⟨q1, q2, q3⟩ := sp _ hk
    have : nd (cnt P m) = m := by
      rcases Nat.lt_trichotomy (nd (cnt P m)) m with z | z | z
      · have := cnt_lt z q2; omega
      · exact z
      · have := cnt_lt z hp; omega
    show cf (nd (cnt P m)) = c
    rw [this]; exact e
/-- words and truths of a set of codes -/
def kW (D : Nat → Prop) (c : Nat) : Prop := D c ∧ (p1 c = 3 ∨ p1 c = 5)
def kT (D : Nat → Prop) (c : Nat) : Prop := D c ∧ (p1 c = 2 ∨ p1 c = 4)
/-- the reference holds this question, but for marks -/
def RQ0 (r E A : Nat) (S0 : qS) (kv : Int32) (I : Nat) (iv : Nat → Nat) (sn : Nat → Bool) (c1 c2 : Nat → Nat) (T : Nat → Prop) : Prop :=
  S0.1 r 9 0 = nI E ∧ S0.1 r 10 0 = nI I ∧ I ≤ 8 ∧ (∀ k, k < I → ∃ m, m < A ∧ S0.1 r 16 k = nI m ∧ T m ∧ rCd S0 r m = iv k ∧ wd (S0.1 r 3) (S0.1 r 5) m = false) ∧
  ((kv = -1 ∧ (∀ e, sn e = true ↔ e < E ∧ ¬ S0.1 r 15 e = 0) ∧ ∀ e, sn e = true → ∃ m m', m < A ∧ m' < A ∧ S0.1 r 19 e = nI m ∧ S0.1 r 20 e = nI m' ∧ T m ∧ T m' ∧ rCd S0 r m = c1 e ∧ rCd S0 r m' = c2 e ∧ wd (S0.1 r 3) (S0.1 r 5) m = wd (S0.1 r 3) (S0.1 r 5) m') ∨
   (∃ m, m < A ∧ kv = nI m ∧ T m ∧ rCd S0 r m = c1 16 ∧ wd (S0.1 r 3) (S0.1 r 5) m = false ∧ c2 16 = cT ∧ ∀ e, sn e = true ↔ e = 16))
/-- what an answer is: D the deep codes, P the places that were looked at -/
def Outc (D : Nat → Prop) (P : Nat → Bool) (E I : Nat) (iv : Nat → Nat) (sn : Nat → Bool) (c1 c2 : Nat → Nat) (eS : Nat → Bool) (y : Int32) (dw dt : Nat) (wit : Nat → Int32) (fet dif : Int32) : Prop :=
  NumOf (kW D) dw ∧ NumOf (kT D) dt ∧
  ((7 < dw ∨ 6 < dt) ∧ y = 2 ∨
   (dw ≤ 7 ∧ dt ≤ 6) ∧ ((y = 1 ∧ ¬ ∃ s, X P (QF I iv sn c1 c2) s) ∨
     (y = 0 ∧ ∃ s e, Lst P (QF I iv sn c1 c2) s ∧ e ≤ 16 ∧ (∃ F, FailsV I iv sn c1 c2 (ivl (zs s) F) e) ∧ (∀ e', e' < e → ¬ ∃ F, FailsV I iv sn c1 c2 (ivl (zs s) F) e') ∧ (∀ a, a < E → wit a = nI (if eS a = true then s (17 + a) else s a)) ∧ fet = nI (s 16) ∧ dif = nI e)))
section ASKR
variable {O : qOb9} {r n E A I : Nat} {T0 : qS} {kv : Int32} {iv c1 c2 : Nat → Nat} {sn eS : Nat → Bool} {T : Nat → Prop}
abbrev JA (j : Nat) : Prop := j = 21 ∨ j = 22 ∨ j = 23 ∨ j = 24 ∨ j = 25 ∨ j = 26 ∨ j = 27 ∨ j = 28 ∨ j = 29 ∨ j = 30 ∨ j = 31 ∨ j = 32 ∨ j = 33 ∨ j = 34 ∨ j = 35
theorem ref_ask (h : Ref O r) (hn : 3000000 ≤ n) (hE : E ≤ 16) (hX : Ext r T0 E A) (hMK : MK r A T0 T) (hQ : RQ0 r E A T0 kv I iv sn c1 c2 T) (hEL : EL r E A T0) (hO : ElO r A T0) (hel : ∀ e m, e < E → m < A → T0.1 r 11 e = nI m → (T0.1 r 3 m = 3 ↔ eS e = true)) :
    ∃ y S' dw dt, G_XModel_ask O n r kv T0 = some (y, S') ∧ rFr r T0 S' JA ∧ (∀ q, S'.1 r 21 q = 0 ∨ S'.1 r 21 q = 1) ∧ S'.1 r 29 0 = nI dw ∧ S'.1 r 30 0 = nI dt ∧ dw ≤ 6400 ∧ dt ≤ 6400 ∧ (S'.1 r 31 0 = if y = 0 then 1 else 0) ∧ (y = 0 → S'.1 r 35 0 = nI E) ∧
      Outc (Dp (fun c => ∃ m, m < A ∧ T m ∧ rCd T0 r m = c)) (PD (Dp (fun c => ∃ m, m < A ∧ T m ∧ rCd T0 r m = c))) E I iv sn c1 c2 eS y dw dt (S'.1 r 32) (S'.1 r 33 0) (S'.1 r 34 0) := by
  have hA := hX.2.1
  have rOk := hX.2.2.1.2.1
  obtain ⟨S1, e1, f1, d1, w1, t1, l1⟩ := ref_gather (O := O) (n := n) h (by omega) hE hX hMK.1
  -- the state in which the search begins
  have v31 : ((up3 S1.1 r 31 0 0, S1.2) : qS).1 r 31 0 = 0 := up3_v
  have k31 : ∀ j, j ≠ 31 → ((up3 S1.1 r 31 0 0, S1.2) : qS).1 r j = S1.1 r j := fun j hj => up3_f hj
  have o31 : rOnly r S1 (up3 S1.1 r 31 0 0, S1.2) := rOnly.up
  unfold G_XModel_ask
  rw [rk h, e1, yV_some, rP h (by decide)]
  generalize hS2 : ((up3 S1.1 r 31 0 0, S1.2) : qS) = S2 at v31 k31 o31 ⊢
  have same : ∀ j, ¬ JG j → j ≠ 31 → S2.1 r j = T0.1 r j := fun j h1 h2 => by rw [k31 j h2, f1.2 j h1]
  have jg : ∀ j, (j = 2 ∨ j = 3 ∨ j = 4 ∨ j = 5 ∨ j = 6 ∨ j = 7 ∨ j = 8 ∨ j = 9 ∨ j = 10 ∨ j = 11 ∨ j = 15 ∨ j = 16 ∨ j = 19 ∨ j = 20) → S2.1 r j = T0.1 r j := fun j hj => same j (by unfold JG; omega) (by omega)
  have r3 := jg 3 (by omega)
  have r4 := jg 4 (by omega)
  have r5 := jg 5 (by omega)
  have r6 := jg 6 (by omega)
  have cde : ∀ m, rCd S2 r m = rCd T0 r m := fun m => by
    show cd _ _ _ _ m = cd _ _ _ _ m
    rw [r3, r4, r5, r6]
  have hX2 : Ext r S2 E A := by
    obtain ⟨y1, y2, y3, y4⟩ := hX
    have hr : ∀ i', rowH (S2.1 r) i' = rowH (T0.1 r) i' := fun i' => by
      unfold rowH
      rw [r3, r4, r5, r6]
    refine ⟨by rw [jg 2 (by omega)]; exact y1, y2, by rw [r3, r4, r5, r6]; exact y3, fun hh hb => ?_, fun i' hi => ?_⟩
    · rw [jg 7 (by omega), y4.1 hh hb]
      exact (rTop_congr fun i' _ => hr i').symm
    · rw [jg 8 (by omega), y4.2 i' hi, hr]
      exact (rTop_congr fun i' _ => hr i').symm
  have m21 : S2.1 r 21 = mpAll (T0.1 r 3) (T0.1 r 4) (T0.1 r 5) (T0.1 r 6) A (T0.1 r 21) := by rw [k31 21 (by decide), d1]
  have hM2 : MClo r A S2 := fun p q hp hq hd hpt => by
    show ¬ S2.1 r 21 q = 0
    rw [r3, r4, r5, r6] at hpt
    rw [m21]
    refine mpAll_closed rOk (by omega) A _ (Nat.le_refl A) hMK.1 p q hp hpt (by omega) ?_
    rw [← m21]; exact hd
  have up : ∀ m, m < A → T m → dpN S2 r m := fun m hm ht => by
    show ¬ S2.1 r 21 m = 0
    rw [m21]
    exact mpAll_mono A _ m (by omega) ((hMK.2 m hm).mpr ht)
  have hDC : ∀ c, DC r A S2 c ↔ Dp (fun c => ∃ m, m < A ∧ T m ∧ rCd T0 r m = c) c := by
    have e0 : ∀ c, mkR (T0.1 r 3) (T0.1 r 4) (T0.1 r 5) (T0.1 r 6) A (T0.1 r 21) c ↔ ∃ m, m < A ∧ T m ∧ rCd T0 r m = c := fun c => ⟨fun ⟨m, hm, hd, e⟩ => ⟨m, hm, (hMK.2 m hm).mp hd, e⟩, fun ⟨m, hm, ht, e⟩ => ⟨m, hm, (hMK.2 m hm).mpr ht, e⟩⟩
    intro c
    constructor
    · rintro ⟨m, hm, hd, e⟩
      have hd' : ¬ mpAll (T0.1 r 3) (T0.1 r 4) (T0.1 r 5) (T0.1 r 6) A (T0.1 r 21) m = 0 := by rw [← m21]; exact hd
      have := (mpAll_Dp hX.2.2.1 (by omega) hE hMK.1 hm).mp hd'
      rw [cde] at e
      rw [← e]
      exact Dp_mono (fun c hc => (e0 c).mp hc) this
    · intro hc
      obtain ⟨m, hm, e⟩ := Dp_node hX.2.2.1 (by omega) hE (R := fun c => ∃ m, m < A ∧ T m ∧ rCd T0 r m = c) (fun c ⟨m, hm, _, e⟩ => ⟨m, hm, e⟩) hc
      refine ⟨m, hm, ?_, by rw [cde]; exact e⟩
      show ¬ S2.1 r 21 m = 0
      rw [m21]
      refine (mpAll_Dp hX.2.2.1 (by omega) hE hMK.1 hm).mpr ?_
      rw [e]
      exact Dp_mono (fun c hc => (e0 c).mpr hc) hc
  have eDC : DC r A S2 = Dp (fun c => ∃ m, m < A ∧ T m ∧ rCd T0 r m = c) := funext fun c => propext (hDC c)
  rw [← eDC]
  have hEL2 : EL r E A S2 := by
    unfold EL
    rw [r3, r4, jg 11 (by omega)]
    exact hEL
  have hO2 : ElO r A S2 := by
    unfold ElO
    rw [r3, r4]
    exact hO
  have hQ2 : RQ r E A S2 kv I iv sn c1 c2 := by
    obtain ⟨q1, q2, q3, q4, q5⟩ := hQ
    refine ⟨by rw [jg 9 (by omega)]; exact q1, by rw [jg 10 (by omega)]; exact q2, q3, fun k hk => ?_, ?_⟩
    · obtain ⟨m, hm, em, tm, cm, wm⟩ := q4 k hk
      exact ⟨m, hm, by rw [jg 16 (by omega)]; exact em, up m hm tm, by rw [cde]; exact cm, by rw [r3, r5]; exact wm⟩
    · rcases q5 with ⟨z1, z2, z3⟩ | ⟨m, hm, ek, tm, cm, wm, z2, z3⟩
      · refine Or.inl ⟨z1, fun e => by rw [jg 15 (by omega)]; exact z2 e, fun e he => ?_⟩
        obtain ⟨m, m', hm, hm', em, em', tm, tm', cm, cm', ww⟩ := z3 e he
        exact ⟨m, m', hm, hm', by rw [jg 19 (by omega)]; exact em, by rw [jg 20 (by omega)]; exact em', up m hm tm, up m' hm' tm', by rw [cde]; exact cm, by rw [cde]; exact cm', by rw [r3, r5]; exact ww⟩
      · exact Or.inr ⟨m, hm, ek, up m hm tm, by rw [cde]; exact cm, by rw [r3, r5]; exact wm, z2, z3⟩
  -- the counts
  have c3 : S2.1 r 3 = S1.1 r 3 := k31 3 (by decide)
  have c21 : S2.1 r 21 = S1.1 r 21 := k31 21 (by decide)
  have cW := NumOf_cnt (P := gW (S2.1 r 3) (S2.1 r 21)) (A := A) (cf := fun m => rCd S2 r m) (Z := kW (DC r A S2)) (fun m m' hm hm' e => cd_inj hX2.2.2.1 (by omega) hE m m' hm hm' e) (fun m hm hp => by
    have kk := (cd_kind hX2.2.2.1.2.1 (by omega) hE hm)
    unfold gW at hp
    rw [Bool.and_eq_true, Bool.not_eq_true', decide_eq_false_iff_not, Bool.or_eq_true, decide_eq_true_iff, decide_eq_true_iff] at hp
    refine ⟨⟨m, hm, hp.1, rfl⟩, ?_⟩
    have b := kk.2.1
    rw [kk.1] at hp
    rcases hp.2 with q | q
    · left; exact (nI_eq (a := p1 (rCd S2 r m)) (b := 3) (by show p1 (cd _ _ _ _ m) < _; omega) (by decide)).mp q
    · right; exact (nI_eq (a := p1 (rCd S2 r m)) (b := 5) (by show p1 (cd _ _ _ _ m) < _; omega) (by decide)).mp q) (fun c hc => by
    obtain ⟨⟨m, hm, hd, e⟩, hk⟩ := hc
    refine ⟨m, hm, ?_, e⟩
    have kk := (cd_kind hX2.2.2.1.2.1 (by omega) hE hm).1
    unfold gW
    rw [Bool.and_eq_true, Bool.not_eq_true', decide_eq_false_iff_not, Bool.or_eq_true, decide_eq_true_iff, decide_eq_true_iff, kk, show cd _ _ _ _ m = c from e]
    refine ⟨hd, ?_⟩
    rcases hk with q | q
    · rw [q]; exact Or.inl rfl
    · rw [q]; exact Or.inr rfl)
  have cT' := NumOf_cnt (P := gT (S2.1 r 3) (S2.1 r 21)) (A := A) (cf := fun m => rCd S2 r m) (Z := kT (DC r A S2)) (fun m m' hm hm' e => cd_inj hX2.2.2.1 (by omega) hE m m' hm hm' e) (fun m hm hp => by
    have kk := (cd_kind hX2.2.2.1.2.1 (by omega) hE hm)
    unfold gT at hp
    rw [Bool.and_eq_true, Bool.not_eq_true', decide_eq_false_iff_not, Bool.or_eq_true, decide_eq_true_iff, decide_eq_true_iff] at hp
    refine ⟨⟨m, hm, hp.1, rfl⟩, ?_⟩
    have b := kk.2.1
    rw [kk.1] at hp
    rcases hp.2 with q | q
    · right; exact (nI_eq (a := p1 (rCd S2 r m)) (b := 4) (by show p1 (cd _ _ _ _ m) < _; omega) (by decide)).mp q
    · left; exact (nI_eq (a := p1 (rCd S2 r m)) (b := 2) (by show p1 (cd _ _ _ _ m) < _; omega) (by decide)).mp q) (fun c hc => by
    obtain ⟨⟨m, hm, hd, e⟩, hk⟩ := hc
    refine ⟨m, hm, ?_, e⟩
    have kk := (cd_kind hX2.2.2.1.2.1 (by omega) hE hm).1
    unfold gT
    rw [Bool.and_eq_true, Bool.not_eq_true', decide_eq_false_iff_not, Bool.or_eq_true, decide_eq_true_iff, decide_eq_true_iff, kk, show cd _ _ _ _ m = c from e]
    refine ⟨hd, ?_⟩
    rcases hk with q | q
    · rw [q]; exact Or.inr rfl
    · rw [q]; exact Or.inl rfl)
  rw [← c3, ← c21] at w1 t1 l1
  have b1 := cnt_le_n (P := gW (S2.1 r 3) (S2.1 r 21)) A
  have b2 := cnt_le_n (P := gT (S2.1 r 3) (S2.1 r 21)) A
  generalize cnt (gW (S2.1 r 3) (S2.1 r 21)) A = dw at w1 l1 cW b1 ⊢
  generalize cnt (gT (S2.1 r 3) (S2.1 r 21)) A = dt at t1 l1 cT' b2 ⊢
  have e29 : S2.1 r 29 0 = nI dw := by rw [k31 29 (by decide)]; exact w1
  have e30 : S2.1 r 30 0 = nI dt := by rw [k31 30 (by decide)]; exact t1
  have m01 : ∀ q, S2.1 r 21 q = 0 ∨ S2.1 r 21 q = 1 := fun q => by rw [m21]; exact mpAll_01 A _ hMK.1 q
  have fr2 : rFr r T0 S2 JA := ⟨f1.1.trans o31, fun j hj => same j (by unfold JG; omega) (by omega)⟩
  rw [rI h (by decide), e29]
  have large : (7 < dw ∨ 6 < dt) → ∃ y S' dw dt, G_XModel_ask_27 O n S2 = some (y, S') ∧ rFr r T0 S' JA ∧ (∀ q, S'.1 r 21 q = 0 ∨ S'.1 r 21 q = 1) ∧ S'.1 r 29 0 = nI dw ∧ S'.1 r 30 0 = nI dt ∧ dw ≤ 6400 ∧ dt ≤ 6400 ∧ (S'.1 r 31 0 = if y = 0 then 1 else 0) ∧ (y = 0 → S'.1 r 35 0 = nI E) ∧ Outc (DC r A S2) (PD (DC r A S2)) E I iv sn c1 c2 eS y dw dt (S'.1 r 32) (S'.1 r 33 0) (S'.1 r 34 0) := fun q => ⟨2, S2, dw, dt, rfl, fr2, m01, e29, e30, by omega, by omega, by rw [v31, if_neg (by decide)], fun z => absurd z (by decide), cW, cT', Or.inl ⟨q, rfl⟩⟩
  by_cases h7 : dw ≤ 7
  · rw [if_neg (show ¬ (7 : Int32) < nI dw from fun q => by have := (nI_ltI (a := 7) (b := dw) (by decide) (by omega)).mp q; omega), rI h (by decide), e30]
    by_cases h6 : dt ≤ 6
    · rw [if_pos (show nI dt ≤ (6 : Int32) from nI_le (b := 6) h6 (by decide))]
      obtain ⟨nw, na, nt, ew, et, hRL⟩ := l1 h7 h6
      have hR2 : RL r A nw na nt S2 := by
        unfold RL dpN at hRL ⊢
        rw [k31 23 (by decide), k31 24 (by decide), k31 25 (by decide), k31 26 (by decide), k31 28 (by decide), c3, c21]
        exact hRL
      have h64 : 2 ^ nt ≤ 64 := Nat.le_trans (Nat.pow_le_pow_right (by decide) hR2.2.2.2.2.1) (by decide)
      rcases ref_ask_31 (O := O) (n := n) h hn hE hX2 hM2 hR2 hQ2 hEL2 (2 ^ nt) 0 n S2 (by omega) (by omega) rFr.refl (fun t' w' _ ht' => absurd ht' (Nat.not_lt_zero t')) with ⟨S', g1, g2⟩ | ⟨S', g1, g2, g3⟩
      · rw [nI_0] at g1
        obtain ⟨s, e, k1, k2, k3, k4, k5, k6, k7, k8, k9, k10⟩ := R_kept hE hX2 hM2 hR2 hO2 hQ2 hEL2 g2
        refine ⟨0, S', dw, dt, g1, fr2.trans (k5.mono (fun j hj => by omega)), fun q => by rw [k5.2 21 (by omega)]; exact m01 q, by rw [k5.2 29 (by omega)]; exact e29, by rw [k5.2 30 (by omega)]; exact e30, by omega, by omega, by rw [k6, if_pos rfl], fun _ => k10, cW, cT', Or.inr ⟨⟨h7, h6⟩, Or.inr ⟨rfl, s, e, k1, k2, k3, k4, fun a ha => ?_, k8, k9⟩⟩⟩
        obtain ⟨m, hm, em, hkind, ea⟩ := hEL2.1 a ha
        obtain ⟨z1, z2⟩ := k7 a m ha hm em
        have hes := hel a m ha hm (by rw [← jg 11 (by omega)]; exact em)
        rw [← r3] at hes
        cases q : eS a with
        | true => rw [if_pos rfl]; exact z2 (hes.mpr q)
        | false =>
          rw [if_neg (by decide)]
          refine z1 (hkind.resolve_left fun k3' => ?_)
          have := hes.mp k3'
          rw [q] at this
          cases this
      · rw [nI_0] at g1
        refine ⟨1, S', dw, dt, g1, fr2.trans (g2.mono (fun j hj => by omega)), fun q => by rw [g2.2 21 (by omega)]; exact m01 q, by rw [g2.2 29 (by omega)]; exact e29, by rw [g2.2 30 (by omega)]; exact e30, by omega, by omega, by rw [g2.2 31 (by omega), v31, if_neg (by decide)], fun z => absurd z (by decide), cW, cT', Or.inr ⟨⟨h7, h6⟩, Or.inl ⟨rfl, R_none hE hX2 hM2 hR2 hO2 hQ2 g3⟩⟩⟩
    · rw [if_neg (show ¬ nI dt ≤ (6 : Int32) from nI_ge (a := 6) (b := dt) (by omega) (by omega))]
      exact large (Or.inr (by omega))
  · rw [if_pos (show (7 : Int32) < nI dw from (nI_ltI (a := 7) (b := dw) (by decide) (by omega)).mpr (by omega))]
    exact large (Or.inl (by omega))
end ASKR
