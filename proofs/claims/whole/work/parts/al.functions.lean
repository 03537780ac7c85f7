section FUNCTIONS
variable {O : qOb9} {x c u p f w q s l n r E A nw na nt I Kc : Nat} {V S0 T : qS} {lam : Nat → Nat} {ν : Nat → Nat}
/-- leaves of state t -/
noncomputable abbrev LT (r : Nat) (V : qS) (K nt t : Nat) (ν : Nat → Nat) : Nat → Nat := LU r V K (tau r V nt t) ν
theorem cls_sameArgs (h : SX O x c u p f w q s l r E A nw na nt I Kc V S0 lam) (hT : TF s l S0 T) {g : Nat} (hP : PR r A (nw + na) nt l V lam T g ν) {i j m m' : Nat} (hi : i < nw + na) (hj : j < nw + na) (hi' : i ≤ g) (hj' : j ≤ g) (hm : m < A) (hm' : m' < A) (em : V.1 r 26 i = nI m) (em' : V.1 r 26 j = nI m') (k5 : V.1 r 3 m = 5) (k5' : V.1 r 3 m' = 5) (dm : dpN V r m) (dm' : dpN V r m') :
    ∃ y, G_XSearch_sameArguments O n s (nI m) (nI m') T = some (y, T) ∧ ∀ t, t < 64 → (bt y t = true ↔ val (LT r V (nw + na) nt t ν) (q1 (rCd V r m)) = val (LT r V (nw + na) nt t ν) (q1 (rCd V r m')) ∧ arg2 (val (LT r V (nw + na) nt t ν)) (rCd V r m) = arg2 (val (LT r V (nw + na) nt t ν)) (rCd V r m')) := by
  have hA := h.hA
  have hO := h.hO
  have hPl := ClO_pl hO
  have NE := fun _ : Unit => ClO_ne hO
  have rOk := h.hX.2.2.1.2.1
  have hA31 : A < 2 ^ 31 := by omega
  obtain ⟨⟨h1, h2, h3, h4, h5, h6, h7⟩, ⟨o1, o2, o3, o4, o5, o6, o7, o8, o9, o10, o11⟩, ⟨n1, n2, n3⟩, _⟩ := hO
  have tw : T.1 w = S0.1 w := hT.1 w (NE ()).2.2.1.2.1
  obtain ⟨_, a, ga, ha, hga, ea, ega, ka, qa, qga, wa, ba⟩ := app_row rOk hA31 h.hE hm k5
  obtain ⟨_, a', ga', ha', hga', ea', ega', ka', qa', qga', wa', ba'⟩ := app_row rOk hA31 h.hE hm' k5'
  have n4 : ¬ V.1 r 3 m ≤ 4 := by rw [k5]; decide
  have n4' : ¬ V.1 r 3 m' ≤ 4 := by rw [k5']; decide
  have part : ∀ {k b y : Nat}, k < nw + na → k ≤ g → b < A → V.1 r 26 k = nI b → dpN V r b → y < b → isPt (V.1 r 3) (V.1 r 4) (V.1 r 5) (V.1 r 6) b y → wd (V.1 r 3) (V.1 r 5) y = true → PRm T l y true (fun t => nv r V (nw + na) nt t ν y) := fun {k b y} hk hkg hb eb db hy hp hw => by
    have := hP y (by omega) (h.hM b y hb (by omega) db hp) (Nat.le_trans (h.hL.2.2.2.2 k b y hk hb (by omega) eb hp) hkg)
    rw [hw] at this
    exact this
  have pa := part hi hi' hm em dm ha (pt_1 (by omega) n4 ea) wa
  have pa' := part hj hj' hm' em' dm' ha' (pt_1 (by omega) n4' ea') wa'
  obtain ⟨y1, e1, hy1⟩ := cls_same (O := O) (n := n) hPl (show a < 5732 by omega) (show a' < 5732 by omega) pa pa'
  have m1 : m < oN O w 1 := by rw [n2.2.1 1 (by omega)]; omega
  have m2 : m < oN O w 2 := by rw [n2.2.1 2 (by omega)]; omega
  have m1' : m' < oN O w 1 := by rw [n2.2.1 1 (by omega)]; omega
  have m2' : m' < oN O w 2 := by rw [n2.2.1 2 (by omega)]; omega
  unfold G_XSearch_sameArguments G_XSearch_sameArguments_59 G_XSearch_sameArguments_71
  rw [uO (ci := 8) h6 (by decide), o8, uA (ci := 3) n2.1 (by decide), ul (ci := 3) n2.1 (by decide) m2 (by omega), uO (ci := 8) h6 (by decide), o8, uA (ci := 3) n2.1 (by decide), ul (ci := 3) n2.1 (by decide) m2' (by omega), uO (ci := 8) h6 (by decide), o10, uO (ci := 8) h6 (by decide), o8, uA (ci := 3) n2.1 (by decide), ul (ci := 3) n2.1 (by decide) m1 (by omega), uO (ci := 8) h6 (by decide), o8, uA (ci := 3) n2.1 (by decide), ul (ci := 3) n2.1 (by decide) m1' (by omega), tw, h.rw1, h.rw2, ea, ea', uk (ci := 5) h7, e1, yC_some]
  have first : ∀ t, t < 64 → (bt y1 t = true ↔ val (LT r V (nw + na) nt t ν) (q1 (rCd V r m)) = val (LT r V (nw + na) nt t ν) (q1 (rCd V r m'))) := fun t ht => by
    rw [hy1 t ht, decide_eq_true_iff, show q1 (rCd V r m) = _ from qa, show q1 (rCd V r m') = _ from qa']
    exact Iff.rfl
  rcases ba with ⟨b1', z⟩ | ⟨b, hb, eb, z, wb⟩
  · rw [b1', if_pos rfl]
    rcases ba' with ⟨b2', z'⟩ | ⟨b', hb', eb', z', wb'⟩
    · rw [b2', if_pos rfl]
      refine ⟨_, rfl, fun t ht => ?_⟩
      rw [first t ht]
      unfold arg2
      rw [show q21 (rCd V r m) = 0 from z, show q21 (rCd V r m') = 0 from z', if_pos rfl]
      exact ⟨fun y => ⟨y, rfl⟩, fun y => y.1⟩
    · rw [eb', if_neg (show ¬ (-1 : Int32) = nI b' from fun y => nI_pos (show b' < 2 ^ 31 by omega) (by rw [← y]; decide))]
      refine ⟨_, rfl, fun t ht => ?_⟩
      rw [bt_0]
      unfold arg2
      rw [show q21 (rCd V r m) = 0 from z, show q21 (rCd V r m') = _ from z', if_pos rfl, if_neg (by omega)]
      exact ⟨fun y => absurd y (by decide), fun y => by omega⟩
  · have nb : ¬ nI b = (-1 : Int32) := fun y => nI_pos (show b < 2 ^ 31 by omega) (by rw [y]; decide)
    rw [eb, if_neg nb]
    rcases ba' with ⟨b2', z'⟩ | ⟨b', hb', eb', z', wb'⟩
    · rw [b2', if_pos rfl, if_neg nb]
      refine ⟨_, rfl, fun t ht => ?_⟩
      rw [bt_0]
      unfold arg2
      rw [show q21 (rCd V r m) = _ from z, show q21 (rCd V r m') = 0 from z', if_pos rfl, if_neg (by omega)]
      exact ⟨fun y => absurd y (by decide), fun y => by omega⟩
    · have pb := part hi hi' hm em dm hb (pt_2 (by omega) n4 eb) wb
      have pb' := part hj hj' hm' em' dm' hb' (pt_2 (by omega) n4' eb') wb'
      obtain ⟨y2, e2, hy2⟩ := cls_same (O := O) (n := n) hPl (show b < 5732 by omega) (show b' < 5732 by omega) pb pb'
      rw [eb', if_neg (show ¬ nI b' = (-1 : Int32) from fun y => nI_pos (show b' < 2 ^ 31 by omega) (by rw [y]; decide)), uO (ci := 8) h6 (by decide), o10, uk (ci := 5) h7, e2, yC_some]
      refine ⟨_, rfl, fun t ht => ?_⟩
      rw [bt_and, Bool.and_eq_true, first t ht, hy2 t ht, decide_eq_true_iff]
      unfold arg2
      rw [show q21 (rCd V r m) = _ from z, show q21 (rCd V r m') = _ from z', if_neg (by omega), if_neg (by omega), Nat.add_sub_cancel, Nat.add_sub_cancel]
      have e : ∀ k, nv r V (nw + na) nt t ν k = val (LT r V (nw + na) nt t ν) (cd (V.1 r 3) (V.1 r 4) (V.1 r 5) (V.1 r 6) k) := fun _ => rfl
      rw [e b, e b']
      constructor
      · rintro ⟨y1, y2⟩; exact ⟨y1, by rw [y2]⟩
      · rintro ⟨y1, y2⟩; exact ⟨y1, by omega⟩
/-- the states in which word g can have its number -/
theorem cls_withFun (h : SX O x c u p f w q s l r E A nw na nt I Kc V S0 lam) (hn : 7000 ≤ n) (hT : TF s l S0 T) {g : Nat} (hg : g < nw + na) (hP : PR r A (nw + na) nt l V lam T g ν) (hv : ∀ i, i < g → T.1 s 5 i = nI (ν i)) (hu : ∀ i, i ≤ g → ν i ≤ 7) {st : Int64} :
    ∃ y, G_XSearch_withFunctions O n s (nI g) (nI (ν g)) st T = some (y, T) ∧ ∀ t, t < 64 → (bt y t = true ↔ bt st t = true ∧ ∀ j, nw ≤ j → j < g → okPair (LT r V (nw + na) nt t ν) (wlc r V g) (wlc r V j)) := by
  have hA := h.hA
  have hO := h.hO
  have NE := fun _ : Unit => ClO_ne hO
  have rOk := h.hX.2.2.1.2.1
  have l7 := h.hR.2.2.2.1
  have hA31 : A < 2 ^ 31 := by omega
  obtain ⟨⟨h1, h2, h3, h4, h5, h6, h7⟩, ⟨o1, o2, o3, o4, o5, o6, o7, o8, o9, o10, o11⟩, ⟨n1, n2, n3⟩, _, _, _, ⟨s3, s4, s5, s6, s7, s8, s9⟩, _⟩ := hO
  have tw : T.1 w = S0.1 w := hT.1 w (NE ()).2.2.1.2.1
  have t4 : T.1 s 4 = S0.1 s 4 := hT.2.1 4 (by decide) (by decide) (by decide) (by decide)
  obtain ⟨m, hm, em, dm, _, k5⟩ := h.hR.2.2.2.2.2.1 g hg
  have tm : wlc r V g = rCd V r m := by unfold wlc; rw [em]; rw [show tN (nI m) = m from nI_clamp (by omega)]
  have g4 : g < oN O s 4 := by rw [s4]; omega
  have m3 : m < oN O w 3 := by rw [n2.2.1 3 (by omega)]; omega
  have loop : ∀ (d j fu : Nat) (st : Int64), (j + d = g ∨ (d = 0 ∧ g ≤ j)) → nw ≤ j → j ≤ 7 → d < fu → ∃ y, G_XSearch_withFunctions_17 O n fu s (nI g) (nI (ν g)) (nI m) st (nI j) T = some (y, T) ∧ ∀ t, t < 64 → (bt y t = true ↔ bt st t = true ∧ ∀ j', j ≤ j' → j' < g → okPair (LT r V (nw + na) nt t ν) (wlc r V g) (wlc r V j')) := by
    intro d
    induction d with
    | zero =>
      intro j fu st e hj hj7 hf
      obtain ⟨fu, rfl⟩ : ∃ q, fu = q + 1 := ⟨fu - 1, by omega⟩
      rw [G_XSearch_withFunctions_17, if_pos (nI_le (by omega) (by omega))]
      exact ⟨st, rfl, fun t ht => ⟨fun z => ⟨z, fun j' a b => by omega⟩, fun z => z.1⟩⟩
    | succ d ih =>
      intro j fu st e hj hj7 hf
      have e : j + (d + 1) = g := by omega
      obtain ⟨fu, rfl⟩ : ∃ q, fu = q + 1 := ⟨fu - 1, by omega⟩
      obtain ⟨m', hm', em', dm', _, k5'⟩ := h.hR.2.2.2.2.2.1 j (by omega)
      have tm' : wlc r V j = rCd V r m' := by unfold wlc; rw [em']; rw [show tN (nI m') = m' from nI_clamp (by omega)]
      have j4 : j < oN O s 4 := by rw [s4]; omega
      have j5 : j < oN O s 5 := by rw [s5]; omega
      have m3' : m' < oN O w 3 := by rw [n2.2.1 3 (by omega)]; omega
      have lj : LT r V (nw + na) nt = LT r V (nw + na) nt := rfl
      have Lg : ∀ t, LT r V (nw + na) nt t ν (wlc r V g) = ν g := fun t => (LU_w (τ := tau r V nt t) (u := ν) h.hE h.hX h.hR hg).1
      have Lj : ∀ t, LT r V (nw + na) nt t ν (wlc r V j) = ν j := fun t => (LU_w (τ := tau r V nt t) (u := ν) h.hE h.hX h.hR (show j < nw + na by omega)).1
      have skip : (∀ t, t < 64 → okPair (LT r V (nw + na) nt t ν) (wlc r V g) (wlc r V j)) → ∃ y, G_XSearch_withFunctions_83 O n (G_XSearch_withFunctions_17 O n fu) s (nI g) (nI (ν g)) (nI m) st (nI j) T = some (y, T) ∧ ∀ t, t < 64 → (bt y t = true ↔ bt st t = true ∧ ∀ j', j ≤ j' → j' < g → okPair (LT r V (nw + na) nt t ν) (wlc r V g) (wlc r V j')) := by
        intro hok
        unfold G_XSearch_withFunctions_83
        rw [hB_eq, nI_1]
        obtain ⟨y, ey, hy⟩ := ih (j + 1) fu st (by omega) (by omega) (by omega) (by omega)
        refine ⟨y, ey, fun t ht => ?_⟩
        rw [hy t ht]
        constructor
        · rintro ⟨z1, z2⟩
          refine ⟨z1, fun j' a b => ?_⟩
          by_cases y : j' = j
          · subst y; exact hok t ht
          · exact z2 j' (by omega) b
        · rintro ⟨z1, z2⟩
          exact ⟨z1, fun j' a b => z2 j' (by omega) b⟩
      rw [G_XSearch_withFunctions_17, if_neg (nI_ge (by omega) (by omega)), uA (ci := 8) h6 (by decide), ul (ci := 8) h6 (by decide) j4 (by omega), t4, h.lw j (by omega), em', uA (ci := 8) h6 (by decide), ul (ci := 8) h6 (by decide) j5 (by omega), hv j (by omega)]
      have b1' := hu j (by omega)
      have b2' := hu g (Nat.le_refl g)
      by_cases z : ν j = ν g
      · rw [if_pos (by rw [z])]
        exact skip (fun t ht _ _ _ => by rw [Lg t, Lj t, z])
      · rw [if_neg (fun y => z ((nI_eq (by omega) (by omega)).mp y)), uO (ci := 8) h6 (by decide), o8, uA (ci := 3) n2.1 (by decide), ul (ci := 3) n2.1 (by decide) m3' (by omega), uO (ci := 8) h6 (by decide), o8, uA (ci := 3) n2.1 (by decide), ul (ci := 3) n2.1 (by decide) m3 (by omega), tw, h.rw3]
        obtain ⟨_, a, ga, ha, hga, ea, ega, ka, qa, qga, wa, ba⟩ := app_row rOk hA31 h.hE hm (k5 (by omega))
        obtain ⟨_, a', ga', ha', hga', ea', ega', ka', qa', qga', wa', ba'⟩ := app_row rOk hA31 h.hE hm' (k5' (by omega))
        rw [ega, ega']
        by_cases z2 : ga' = ga
        · rw [if_pos (by rw [z2]), uk (ci := 8) h6]
          obtain ⟨y0, e0, hy0⟩ := cls_sameArgs (n := n) h hT hP hg (show j < nw + na by omega) (Nat.le_refl g) (by omega) hm hm' em em' (k5 (by omega)) (k5' (by omega)) dm dm'
          rw [e0, yC_some, hB_eq]
          unfold G_XSearch_withFunctions_83
          rw [hB_eq, nI_1]
          obtain ⟨y, ey, hy⟩ := ih (j + 1) fu (st &&& (y0 ^^^ (-1 : Int64))) (by omega) (by omega) (by omega) (by omega)
          refine ⟨y, ey, fun t ht => ?_⟩
          have key : bt (y0 ^^^ (-1 : Int64)) t = true ↔ okPair (LT r V (nw + na) nt t ν) (wlc r V g) (wlc r V j) := by
            rw [bt_not _ ht]
            have hy0' := hy0 t ht
            constructor
            · intro hb h22 ha1 ha2
              exfalso
              rw [tm, tm'] at ha1 ha2
              have := hy0'.mpr ⟨ha1, ha2⟩
              rw [this] at hb
              exact absurd hb (by decide)
            · intro hok
              cases q : bt y0 t with
              | false => rfl
              | true =>
                exfalso
                obtain ⟨r1, r2⟩ := hy0'.mp q
                have := hok (by rw [tm, tm', show q22 (rCd V r m) = _ from qga, show q22 (rCd V r m') = _ from qga', z2]) (by rw [tm, tm']; exact r1) (by rw [tm, tm']; exact r2)
                rw [Lg t, Lj t] at this
                exact z this.symm
          rw [hy t ht, bt_and, Bool.and_eq_true, key]
          constructor
          · rintro ⟨⟨z1, z2⟩, z3⟩
            refine ⟨z1, fun j' a b => ?_⟩
            by_cases y : j' = j
            · subst y; exact z2
            · exact z3 j' (by omega) b
          · rintro ⟨z1, z2⟩
            exact ⟨⟨z1, z2 j (Nat.le_refl j) (by omega)⟩, fun j' a b => z2 j' (by omega) b⟩
        · rw [if_neg (fun y => z2 ((nI_eq (by omega) (by omega)).mp y))]
          refine skip (fun t ht h22 => ?_)
          rw [tm, tm', show q22 (rCd V r m) = _ from qga, show q22 (rCd V r m') = _ from qga'] at h22
          exact absurd h22.symm z2
  unfold G_XSearch_withFunctions
  rw [uA (ci := 8) h6 (by decide), ul (ci := 8) h6 (by decide) g4 (by omega), t4, h.lw g hg, em, uI (ci := 8) h6 (by decide), hT.2.1 12 (by decide) (by decide) (by decide) (by decide), h.c12]
  obtain ⟨y, ey, hy⟩ := loop (g - nw) nw n st (by omega) (Nat.le_refl nw) (by omega) (by omega)
  exact ⟨y, ey, hy⟩
end FUNCTIONS
