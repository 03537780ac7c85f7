/-! ARE THEY FUNCTIONS? -/
/-- two applications agree -/
def okPair (L : Nat → Nat) (c d : Nat) : Prop := q22 c = q22 d → val L (q1 c) = val L (q1 d) → arg2 (val L) c = arg2 (val L) d → L c = L d
theorem q1_A {g a b : Nat} : q1 (cA g a b) = a := by unfold q1; rw [p2_pr, p1_pr]
theorem q21_A {g a b : Nat} : q21 (cA g a b) = b := by unfold q21; rw [p2_pr, p2_pr, p1_pr]
theorem q22_A {g a b : Nat} : q22 (cA g a b) = g := by unfold q22; rw [p2_pr, p2_pr, p2_pr]
theorem app_row {κ α β γ : Nat → Int32} {E N n : Nat} (hS : ∀ n, n < N → rowOk κ α β γ E n) (hN : N < 2 ^ 31) (hE : E ≤ 16) (hn : n < N) (hk : κ n = 5) :
    3 ≤ n ∧ ∃ x g, x < n ∧ g < 8 ∧ α n = nI x ∧ γ n = nI g ∧ p1 (cd κ α β γ n) = 5 ∧ q1 (cd κ α β γ n) = cd κ α β γ x ∧ q22 (cd κ α β γ n) = g ∧ wd κ β x = true ∧ ((β n = -1 ∧ q21 (cd κ α β γ n) = 0) ∨ ∃ y, y < n ∧ β n = nI y ∧ q21 (cd κ α β γ n) = cd κ α β γ y + 1 ∧ wd κ β y = true) := by
  rcases row_5 hS hN hE hn hk with ⟨h3, x, g, hx, hg, k, ex, ey, eg, wx, e⟩ | ⟨h3, x, y, g, hx, hy, hg, k, ex, ey, eg, wx, wy, e⟩
  · rw [e]
    exact ⟨h3, x, g, hx, hg, ex, eg, p1_pr _ _, q1_A, q22_A, wx, Or.inl ⟨ey, q21_A⟩⟩
  · rw [e]
    exact ⟨h3, x, g, hx, hg, ex, eg, p1_pr _ _, q1_A, q22_A, wx, Or.inr ⟨y, hy, ey, q21_A, wy⟩⟩
section AREF
variable {O : qOb9} {r n E A nw na nt : Nat} {S0 S : qS} {L : Nat → Nat}
theorem ref_areF_33 (h : Ref O r) (hE : E ≤ 16) (hX : Ext r S0 E A) (hM : MClo r A S0) (hR : RL r A nw na nt S0) (hL : LB L) (hF : rFr r S0 S (fun j => j = 22 ∨ j = 27)) (hV : ∀ m, m < A → dpN S0 r m → S.1 r 22 m = nI (val L (rCd S0 r m))) (rec7 : Nat → Int32 → Int32 → qS → Option (Int32 × qS)) {i mi : Nat} (hi : nw ≤ i) (hi' : i < nw + na) (hmi : mi < A) (emi : S0.1 r 26 i = nI mi) (dmi : dpN S0 r mi) (kmi : S0.1 r 3 mi = 5) :
    ∀ (d j f : Nat) (b : Bool), nw ≤ j → j + d = i → d < f → ∃ b', (b' = true ↔ b = true ∧ ∀ k m, j ≤ k → k < i → m < A → S0.1 r 26 k = nI m → okPair L (rCd S0 r mi) (rCd S0 r m)) ∧ G_XModel_areFunctions_33 O n rec7 f r (bN b) (nI i) (nI mi) (nI j) S = rec7 r (bN b') (nI (i + 1)) S := by
  have hA := hX.2.1
  have rOk := hX.2.2.1.2.1
  obtain ⟨r23, r24, r25, r7, r6, rW, rWa, rWo, rT, rTa, rTo, rWi⟩ := hR
  have vle := val_le (L := L) (B := 100) (by decide) hL.1
  have e3 := hF.2 3 (by omega)
  have e4 := hF.2 4 (by omega)
  have e5 := hF.2 5 (by omega)
  have e6 := hF.2 6 (by omega)
  have e26 := hF.2 26 (by omega)
  obtain ⟨_, x, g, hx, hg, ax, ag, kp, qx, qg, _, hb⟩ := app_row rOk (by omega) hE hmi kmi
  have mi0 : mi < 6400 := by omega
  have mi4 : mi < refN 4 := mi0
  have mi5 : mi < refN 5 := mi0
  have mi6 : mi < refN 6 := mi0
  have mi22 : mi < refN 22 := mi0
  have x22 : x < refN 22 := by show x < 6400; omega
  have dx : dpN S0 r x := hM mi x hmi (by omega) dmi ⟨by rw [kmi]; decide, Or.inl ax⟩
  intro d
  induction d with
  | zero =>
    intro j f b hj e hf
    obtain ⟨f, rfl⟩ : ∃ q, f = q + 1 := ⟨f - 1, by omega⟩
    refine ⟨b, ⟨fun q => ⟨q, fun k m h1 h2 => by omega⟩, fun q => q.1⟩, ?_⟩
    rw [G_XModel_areFunctions_33, if_pos (nI_le (by omega) (by omega)), hB_eq, nI_1]
  | succ d ih =>
    intro j f b hj e hf
    obtain ⟨f, rfl⟩ : ∃ q, f = q + 1 := ⟨f - 1, by omega⟩
    obtain ⟨mj, hmj, emj, dmj, _, kmj'⟩ := rW j (by omega)
    have kmj := kmj' hj
    obtain ⟨_, x', g', hx', hg', ax', ag', kp', qx', qg', _, hb'⟩ := app_row rOk (by omega) hE hmj kmj
    have j26 : j < refN 26 := by show j < 7; omega
    have mj0 : mj < 6400 := by omega
    have mj4 : mj < refN 4 := mj0
    have mj5 : mj < refN 5 := mj0
    have mj6 : mj < refN 6 := mj0
    have mj22 : mj < refN 22 := mj0
    have xj22 : x' < refN 22 := by show x' < 6400; omega
    have dx' : dpN S0 r x' := hM mj x' hmj (by omega) dmj ⟨by rw [kmj]; decide, Or.inl ax'⟩
    -- the loop goes on with what this pair came to
    have go : ∀ c : Bool, (c = true ↔ b = true ∧ okPair L (rCd S0 r mi) (rCd S0 r mj)) → ∃ b', (b' = true ↔ b = true ∧ ∀ k m, j ≤ k → k < i → m < A → S0.1 r 26 k = nI m → okPair L (rCd S0 r mi) (rCd S0 r m)) ∧ G_XModel_areFunctions_194 O n rec7 (G_XModel_areFunctions_33 O n rec7 f) r (nI i) (nI mi) (nI j) (bN c) S = rec7 r (bN b') (nI (i + 1)) S := by
      intro c hc
      obtain ⟨b', hb1, hb2⟩ := ih (j + 1) f c (by omega) (by omega) (by omega)
      refine ⟨b', ?_, ?_⟩
      · rw [hb1, hc]
        constructor
        · rintro ⟨⟨q1, q2⟩, q3⟩
          refine ⟨q1, fun k m h1 h2 hm em => ?_⟩
          by_cases z : k = j
          · subst z
            have := (nI_eq (by omega) (by omega)).mp (em.symm.trans emj)
            rw [this]; exact q2
          · exact q3 k m (by omega) h2 hm em
        · rintro ⟨q1, q2⟩
          exact ⟨⟨q1, q2 j mj (Nat.le_refl j) (by omega) hmj emj⟩, fun k m h1 h2 hm em => q2 k m (by omega) h2 hm em⟩
      · unfold G_XModel_areFunctions_194
        rw [hB_eq, nI_1]
        exact hb2
    have vi := hV mi hmi dmi
    have vj := hV mj hmj dmj
    rw [val_leaf ⟨by rw [kp]; decide, by rw [kp]; decide⟩] at vi
    rw [val_leaf ⟨by rw [kp']; decide, by rw [kp']; decide⟩] at vj
    have bi := hL.1 (rCd S0 r mi)
    have bj := hL.1 (rCd S0 r mj)
    -- not the same: nothing changes
    have g161 : okPair L (rCd S0 r mi) (rCd S0 r mj) → ∃ b', (b' = true ↔ b = true ∧ ∀ k m, j ≤ k → k < i → m < A → S0.1 r 26 k = nI m → okPair L (rCd S0 r mi) (rCd S0 r m)) ∧ G_XModel_areFunctions_161 O n rec7 (G_XModel_areFunctions_33 O n rec7 f) r (bN b) (nI i) (nI mi) (nI j) (nI mj) S = rec7 r (bN b') (nI (i + 1)) S := by
      intro hok
      unfold G_XModel_areFunctions_161 G_XModel_areFunctions_162
      cases b with
      | false => exact go false ⟨fun q => (by cases q), fun q => q.1⟩
      | true => exact go true ⟨fun _ => ⟨rfl, hok⟩, fun _ => rfl⟩
    -- the same: values decide
    have g157 : (okPair L (rCd S0 r mi) (rCd S0 r mj) ↔ L (rCd S0 r mi) = L (rCd S0 r mj)) → ∃ b', (b' = true ↔ b = true ∧ ∀ k m, j ≤ k → k < i → m < A → S0.1 r 26 k = nI m → okPair L (rCd S0 r mi) (rCd S0 r m)) ∧ G_XModel_areFunctions_157 O n rec7 (G_XModel_areFunctions_33 O n rec7 f) r (bN b) (nI i) (nI mi) (nI j) (nI mj) S = rec7 r (bN b') (nI (i + 1)) S := by
      intro hok
      unfold G_XModel_areFunctions_157 G_XModel_areFunctions_162
      cases b with
      | false => exact go false ⟨fun q => (by cases q), fun q => q.1⟩
      | true =>
        rw [if_neg (show ¬ bN true = 0 by decide), if_neg (show ¬ (1 : Int32) = 0 by decide), rA h (by decide), rl h (by decide) (by decide) mi22, vi, rA h (by decide), rl h (by decide) (by decide) mj22, vj]
        by_cases z : L (rCd S0 r mi) = L (rCd S0 r mj)
        · rw [if_pos (by rw [z])]
          exact go true ⟨fun _ => ⟨rfl, hok.mpr z⟩, fun _ => rfl⟩
        · rw [if_neg (fun w => z ((nI_eq (by omega) (by omega)).mp w))]
          exact go false ⟨fun q => (by cases q), fun q => absurd (hok.mp q.2) z⟩
    rw [G_XModel_areFunctions_33, if_neg (nI_ge (by omega) (by omega)), rA h (by decide), rl h (by decide) (by decide) j26, e26, emj, rA h (by decide), rl h (by decide) (by decide) mi6, e6, ag, rA h (by decide), rl h (by decide) (by decide) mj6, e6, ag']
    by_cases gg : g = g'
    · rw [if_pos (by rw [gg]), rA h (by decide), rl h (by decide) (by decide) mi5, e5]
      have bx := vle (rCd S0 r x)
      have bx' := vle (rCd S0 r x')
      rcases hb with ⟨hb, qb⟩ | ⟨y, hy, hb, qb, _⟩
      · rw [hb, if_neg (show ¬ (0 : Int32) ≤ -1 by decide)]
        unfold G_XModel_areFunctions_78
        rw [rA h (by decide), rl h (by decide) (by decide) mj5, e5]
        rcases hb' with ⟨hb', qb'⟩ | ⟨y', hy', hb', qb', _⟩
        · rw [hb', if_neg (show ¬ (0 : Int32) ≤ -1 by decide)]
          unfold G_XModel_areFunctions_93
          rw [if_pos rfl, rA h (by decide), rA h (by decide), rl h (by decide) (by decide) mi4, e4, ax, rl h (by decide) (by decide) x22, hV x (by omega) dx, rA h (by decide), rA h (by decide), rl h (by decide) (by decide) mj4, e4, ax', rl h (by decide) (by decide) xj22, hV x' (by omega) dx']
          by_cases z : val L (rCd S0 r x) = val L (rCd S0 r x')
          · rw [if_pos (by rw [z]), rA h (by decide), rl h (by decide) (by decide) mi5, e5, hb, if_pos (by decide)]
            refine g157 ⟨fun q => q (by rw [qg, qg']; exact gg) (by rw [qx, qx']; exact z) (by unfold arg2; rw [qb, qb']), fun q _ _ _ => q⟩
          · rw [if_neg (fun w => z ((nI_eq (by omega) (by omega)).mp w))]
            refine g161 (fun _ q _ => absurd (by rw [qx, qx'] at q; exact q) z)
        · rw [hb', if_pos (nI_pos' (by omega))]
          unfold G_XModel_areFunctions_93
          rw [if_neg (show ¬ (1 : Int32) = 0 by decide)]
          refine g161 (fun _ _ q => ?_)
          unfold arg2 at q
          rw [qb, qb', if_pos rfl, if_neg (by omega)] at q
          omega
      · have dy : dpN S0 r y := hM mi y hmi (by omega) dmi ⟨by rw [kmi]; decide, Or.inr (Or.inl hb)⟩
        have y22 : y < refN 22 := by show y < 6400; omega
        rw [hb, if_pos (nI_pos' (by omega))]
        unfold G_XModel_areFunctions_78
        rw [rA h (by decide), rl h (by decide) (by decide) mj5, e5]
        rcases hb' with ⟨hb', qb'⟩ | ⟨y', hy', hb', qb', _⟩
        · rw [hb', if_neg (show ¬ (0 : Int32) ≤ -1 by decide)]
          unfold G_XModel_areFunctions_93
          rw [if_neg (show ¬ (0 : Int32) = 1 by decide)]
          refine g161 (fun _ _ q => ?_)
          unfold arg2 at q
          rw [qb, qb', if_pos rfl, if_neg (by omega)] at q
          omega
        · have dy' : dpN S0 r y' := hM mj y' hmj (by omega) dmj ⟨by rw [kmj]; decide, Or.inr (Or.inl hb')⟩
          have yj22 : y' < refN 22 := by show y' < 6400; omega
          have by1 := vle (rCd S0 r y)
          have by2 := vle (rCd S0 r y')
          have ea : arg2 (val L) (rCd S0 r mi) = val L (rCd S0 r y) + 1 := by unfold arg2; rw [qb, if_neg (by omega), Nat.add_sub_cancel]
          have ea' : arg2 (val L) (rCd S0 r mj) = val L (rCd S0 r y') + 1 := by unfold arg2; rw [qb', if_neg (by omega), Nat.add_sub_cancel]
          rw [hb', if_pos (nI_pos' (by omega))]
          unfold G_XModel_areFunctions_93
          rw [if_pos rfl, rA h (by decide), rA h (by decide), rl h (by decide) (by decide) mi4, e4, ax, rl h (by decide) (by decide) x22, hV x (by omega) dx, rA h (by decide), rA h (by decide), rl h (by decide) (by decide) mj4, e4, ax', rl h (by decide) (by decide) xj22, hV x' (by omega) dx']
          by_cases z : val L (rCd S0 r x) = val L (rCd S0 r x')
          · rw [if_pos (by rw [z]), rA h (by decide), rl h (by decide) (by decide) mi5, e5, hb, if_neg (nI_pos (by omega)), rA h (by decide), rA h (by decide), rl h (by decide) (by decide) mi5, e5, hb, rl h (by decide) (by decide) y22, hV y (by omega) dy, rA h (by decide), rA h (by decide), rl h (by decide) (by decide) mj5, e5, hb', rl h (by decide) (by decide) yj22, hV y' (by omega) dy']
            by_cases z2 : val L (rCd S0 r y) = val L (rCd S0 r y')
            · rw [if_pos (by rw [z2])]
              refine g157 ⟨fun q => q (by rw [qg, qg']; exact gg) (by rw [qx, qx']; exact z) (by rw [ea, ea', z2]), fun q _ _ _ => q⟩
            · rw [if_neg (fun w => z2 ((nI_eq (by omega) (by omega)).mp w))]
              refine g161 (fun _ _ q => ?_)
              rw [ea, ea'] at q
              exact absurd (by omega) z2
          · rw [if_neg (fun w => z ((nI_eq (by omega) (by omega)).mp w))]
            refine g161 (fun _ q _ => absurd (by rw [qx, qx'] at q; exact q) z)
    · rw [if_neg (fun w => gg ((nI_eq (by omega) (by omega)).mp w))]
      refine g161 (fun q => absurd (by rw [qg, qg'] at q; exact q) gg)
theorem okPair_symm {c d : Nat} (h : okPair L c d) : okPair L d c := fun q1 q2 q3 => (h q1.symm q2.symm q3.symm).symm
/-- areFunctions says whether the leaves are functions' -/
theorem ref_areF (h : Ref O r) (hn : 7000 ≤ n) (hE : E ≤ 16) (hX : Ext r S0 E A) (hM : MClo r A S0) (hR : RL r A nw na nt S0) (hL : LB L) (hF : rFr r S0 S (fun j => j = 22 ∨ j = 27)) (hV : ∀ m, m < A → dpN S0 r m → S.1 r 22 m = nI (val L (rCd S0 r m))) :
    ∃ b, (b = true ↔ Fun (DC r A S0) L) ∧ G_XModel_areFunctions O n r S = some (bN b, S) := by
  have hR' := hR
  obtain ⟨r23, r24, r25, r7, r6, rW, rWa, rWo, rT, rTa, rTo, rWi⟩ := hR
  have hA := hX.2.1
  have rOk := hX.2.2.1.2.1
  have e23 : S.1 r 23 0 = nI nw := by rw [hF.2 23 (by omega)]; exact r23
  have e24 : S.1 r 24 0 = nI na := by rw [hF.2 24 (by omega)]; exact r24
  have loop : ∀ (d i f : Nat) (b : Bool), nw ≤ i → i + d = nw + na → d < f → ∃ b', (b' = true ↔ b = true ∧ ∀ k k' m m', i ≤ k → k < nw + na → nw ≤ k' → k' < k → m < A → m' < A → S0.1 r 26 k = nI m → S0.1 r 26 k' = nI m' → okPair L (rCd S0 r m) (rCd S0 r m')) ∧ G_XModel_areFunctions_7 O n f r (bN b) (nI i) S = some (bN b', S) := by
    intro d
    induction d with
    | zero =>
      intro i f b hi e hf
      obtain ⟨f, rfl⟩ : ∃ q, f = q + 1 := ⟨f - 1, by omega⟩
      refine ⟨b, ⟨fun q => ⟨q, fun k k' m m' h1 h2 => by omega⟩, fun q => q.1⟩, ?_⟩
      rw [G_XModel_areFunctions_7, rI h (by decide), e23, rI h (by decide), e24, nI_add, if_pos (nI_le (by omega) (by omega))]
      exact hz_bN
    | succ d ih =>
      intro i f b hi e hf
      obtain ⟨f, rfl⟩ : ∃ q, f = q + 1 := ⟨f - 1, by omega⟩
      obtain ⟨mi, hmi, emi, dmi, _, kmi⟩ := rW i (by omega)
      have i26 : i < refN 26 := by show i < 7; omega
      obtain ⟨b1, hb1, hb2⟩ := ref_areF_33 (O := O) (n := n) h hE hX hM hR' hL hF hV (G_XModel_areFunctions_7 O n f) hi (by omega) hmi emi dmi (kmi hi) (i - nw) nw n b (Nat.le_refl nw) (by omega) (by omega)
      obtain ⟨b2, hb3, hb4⟩ := ih (i + 1) f b1 (by omega) (by omega) (by omega)
      refine ⟨b2, ?_, ?_⟩
      · rw [hb3, hb1]
        constructor
        · rintro ⟨⟨q1, q2⟩, q3⟩
          refine ⟨q1, fun k k' m m' h1 h2 h3 h4 hm hm' em em' => ?_⟩
          by_cases z : k = i
          · subst z
            have := (nI_eq (by omega) (by omega)).mp (em.symm.trans emi)
            rw [this]; exact q2 k' m' h3 h4 hm' em'
          · exact q3 k k' m m' (by omega) h2 h3 h4 hm hm' em em'
        · rintro ⟨q1, q2⟩
          exact ⟨⟨q1, fun k m h1 h2 hm em => q2 i k mi m (Nat.le_refl i) (by omega) h1 h2 hmi hm emi em⟩, fun k k' m m' h1 h2 h3 h4 hm hm' em em' => q2 k k' m m' (by omega) h2 h3 h4 hm hm' em em'⟩
      · rw [G_XModel_areFunctions_7, rI h (by decide), e23, rI h (by decide), e24, nI_add, if_neg (nI_ge (by omega) (by omega)), rA h (by decide), rl h (by decide) (by decide) i26, hF.2 26 (by omega), emi, rI h (by decide), e23, hb2]
        exact hb4
  obtain ⟨b, hb1, hb2⟩ := loop na nw n true (Nat.le_refl nw) rfl (by omega)
  refine ⟨b, ?_, ?_⟩
  · rw [hb1]
    constructor
    · rintro ⟨-, q⟩ c d ⟨m, hm, dm, ec⟩ ⟨m', hm', dm', ed⟩ c5 d5 w1 w2 w3
      have km : S0.1 r 3 m = 5 := by rw [(cd_kind rOk (by omega) hE hm).1, show cd _ _ _ _ m = c from ec, c5]; rfl
      have km' : S0.1 r 3 m' = 5 := by rw [(cd_kind rOk (by omega) hE hm').1, show cd _ _ _ _ m' = d from ed, d5]; rfl
      obtain ⟨k, k1, k2, ek⟩ := (rWa m hm dm).2 km
      obtain ⟨k', k1', k2', ek'⟩ := (rWa m' hm' dm').2 km'
      rw [← ec, ← ed] at w1 w2 w3 ⊢
      rcases Nat.lt_trichotomy k k' with z | z | z
      · exact okPair_symm (q k' k m' m k1' k2' k1 z hm' hm ek' ek) w1 w2 w3
      · subst z
        have := (nI_eq (by omega) (by omega)).mp (ek.symm.trans ek')
        rw [this]
      · exact q k k' m m' k1 k2 k1' z hm hm' ek ek' w1 w2 w3
    · intro hfun
      refine ⟨rfl, fun k k' m m' h1 h2 h3 h4 hm hm' em em' w1 w2 w3 => ?_⟩
      obtain ⟨u, hu, eu, du, _, ku⟩ := rW k h2
      obtain ⟨u', hu', eu', du', _, ku'⟩ := rW k' (by omega)
      have z1 := (nI_eq (by omega) (by omega)).mp (em.symm.trans eu)
      have z2 := (nI_eq (by omega) (by omega)).mp (em'.symm.trans eu')
      subst z1; subst z2
      have kc : p1 (rCd S0 r m) = 5 := (app_row rOk (by omega) hE hm (ku h1)).2.elim fun x q => q.elim fun g q => q.2.2.2.2.1
      have kc' : p1 (rCd S0 r m') = 5 := (app_row rOk (by omega) hE hm' (ku' h3)).2.elim fun x q => q.elim fun g q => q.2.2.2.2.1
      exact hfun _ _ ⟨m, hm, du, rfl⟩ ⟨m', hm', du', rfl⟩ kc kc' w1 w2 w3
  · unfold G_XModel_areFunctions
    rw [rI h (by decide), e23]
    exact hb2
end AREF
