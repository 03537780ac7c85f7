/-! THE CLASS COLLECTS -/
/-- what is fixed while the search gets ready -/
def PX (O : qOb9) (x c u p f w q s l E M : Nat) (S : qS) : Prop :=
  ClO O x c u p f w q s l ∧ E ≤ 16 ∧ CS O w 5732 2048 S E M ∧ (3 + E ≤ M ∧ (∀ m, m < 3 + E → S.1 w 0 m ≤ 4) ∧ ∀ m, 3 + E ≤ m → m < M → ¬ S.1 w 0 m ≤ 4) ∧ (∀ m, S.1 p 3 m = 0 ∨ S.1 p 3 m = 1) ∧ (∀ a b, a < M → b < M → ¬ S.1 p 3 a = 0 → isPt (S.1 w 0) (S.1 w 1) (S.1 w 2) (S.1 w 3) a b → ¬ S.1 p 3 b = 0) ∧ cnt (gW (S.1 w 0) (S.1 p 3)) M ≤ 7 ∧ cnt (gT (S.1 w 0) (S.1 p 3)) M ≤ 6
theorem PX_same {O : qOb9} {x c u p f w q s l E M : Nat} {S S' : qS} (h : PX O x c u p f w q s l E M S) (hw : S'.1 w = S.1 w) (hp : S'.1 p = S.1 p) : PX O x c u p f w q s l E M S' := by
  unfold PX CS at h ⊢
  rw [hw, hp]; exact h
/-- a field of counts and a list grow -/
theorem gW_iff {κ D : Nat → Int32} {m : Nat} : gW κ D m = true ↔ ¬ D m = 0 ∧ (κ m = 3 ∨ κ m = 5) := by
  unfold gW
  rw [Bool.and_eq_true, Bool.not_eq_true', decide_eq_false_iff_not, Bool.or_eq_true, decide_eq_true_iff, decide_eq_true_iff]
theorem gT_iff {κ D : Nat → Int32} {m : Nat} : gT κ D m = true ↔ ¬ D m = 0 ∧ (κ m = 4 ∨ κ m = 2) := by
  unfold gT
  rw [Bool.and_eq_true, Bool.not_eq_true', decide_eq_false_iff_not, Bool.or_eq_true, decide_eq_true_iff, decide_eq_true_iff]
section COLLECT
variable {O : qOb9} {x c u p f w q s l n E M : Nat} {S T : qS}
abbrev JC (j : Nat) : Prop := j = 3 ∨ j = 4 ∨ j = 10 ∨ j = 11 ∨ j = 12
theorem cls_addTruth (hO : ClO O x c u p f w q s l) {k v : Nat} (hk : k < 6) (h10 : T.1 s 10 0 = nI k) : ∃ T', G_XSearch_addTruth O n s (nI v) T = some ((), T') ∧ rFr s T T' JC ∧ T'.1 s 10 0 = nI (k + 1) ∧ T'.1 s 3 = (fun i => if i = k then nI v else T.1 s 3 i) ∧ T'.1 s 4 = T.1 s 4 ∧ T'.1 s 11 = T.1 s 11 ∧ T'.1 s 12 = T.1 s 12 := by
  obtain ⟨⟨h1, h2, h3, h4, h5, h6, h7⟩, _, _, _, _, _, ⟨s3, s4, s5, s6, s7, s8, s9⟩, _⟩ := hO
  have k3 : k < oN O s 3 := by rw [s3]; exact hk
  unfold G_XSearch_addTruth G_XSearch_addTruth_32
  rw [uI (ci := 8) h6 (by decide), h10, uA (ci := 8) h6 (by decide), un (ci := 8) h6 (by decide), s3, if_neg (nI_ge hk (by omega)), uA (ci := 8) h6 (by decide), uI (ci := 8) h6 (by decide), h10, uw (ci := 8) h6 (by decide) k3 (by omega), uI (ci := 8) h6 (by decide), up3_f (by decide), h10, uP (ci := 8) h6 (by decide), nI_1]
  refine ⟨_, rfl, (rFr.refl.up (Or.inl rfl)).up (Or.inr (Or.inr (Or.inl rfl))), up3_v, ?_, ?_, ?_, ?_⟩
  · rw [up3_f (by decide)]
    funext i
    by_cases z : i = k
    · rw [if_pos z, z]; exact up3_v
    · rw [if_neg z]; exact up3_o z
  · rw [up3_f (by decide), up3_f (by decide)]
  · rw [up3_f (by decide), up3_f (by decide)]
  · rw [up3_f (by decide), up3_f (by decide)]
theorem cls_addWord (hO : ClO O x c u p f w q s l) {k v : Nat} (hk : k < 7) (h11 : T.1 s 11 0 = nI k) : ∃ T', G_XSearch_addWord O n s (nI v) T = some ((), T') ∧ rFr s T T' JC ∧ T'.1 s 11 0 = nI (k + 1) ∧ T'.1 s 4 = (fun i => if i = k then nI v else T.1 s 4 i) ∧ T'.1 s 3 = T.1 s 3 ∧ T'.1 s 10 = T.1 s 10 ∧ T'.1 s 12 = T.1 s 12 := by
  obtain ⟨⟨h1, h2, h3, h4, h5, h6, h7⟩, _, _, _, _, _, ⟨s3, s4, s5, s6, s7, s8, s9⟩, _⟩ := hO
  have k4 : k < oN O s 4 := by rw [s4]; exact hk
  unfold G_XSearch_addWord G_XSearch_addWord_32
  rw [uI (ci := 8) h6 (by decide), h11, uA (ci := 8) h6 (by decide), un (ci := 8) h6 (by decide), s4, if_neg (nI_ge hk (by omega)), uA (ci := 8) h6 (by decide), uI (ci := 8) h6 (by decide), h11, uw (ci := 8) h6 (by decide) k4 (by omega), uI (ci := 8) h6 (by decide), up3_f (by decide), h11, uP (ci := 8) h6 (by decide), nI_1]
  refine ⟨_, rfl, (rFr.refl.up (Or.inr (Or.inl rfl))).up (Or.inr (Or.inr (Or.inr (Or.inl rfl)))), up3_v, ?_, ?_, ?_, ?_⟩
  · rw [up3_f (by decide)]
    funext i
    by_cases z : i = k
    · rw [if_pos z, z]; exact up3_v
    · rw [if_neg z]; exact up3_o z
  · rw [up3_f (by decide), up3_f (by decide)]
  · rw [up3_f (by decide), up3_f (by decide)]
  · rw [up3_f (by decide), up3_f (by decide)]
/-- the state while nodes are collected -/
def CoI2 (p w s : Nat) (S T : qS) (i : Nat) : Prop := rFr s S T JC ∧ T.1 s 10 0 = nI (cnt (gP 4 (S.1 w 0) (S.1 p 3)) i) ∧ T.1 s 11 0 = nI (cnt (gW (S.1 w 0) (S.1 p 3)) i) ∧ T.1 s 12 0 = nI (cnt (gP 3 (S.1 w 0) (S.1 p 3)) i) ∧ Lists (T.1 s 4) (gW (S.1 w 0) (S.1 p 3)) 0 i ∧ Lists (T.1 s 3) (gP 4 (S.1 w 0) (S.1 p 3)) 0 i
theorem cnt_none {P : Nat → Bool} : ∀ {n : Nat}, (∀ m, m < n → P m = false) → cnt P n = 0 := by
  intro n
  induction n with
  | zero => intro _; rfl
  | succ n ih =>
    intro h
    rw [cnt_s, ih (fun m hm => h m (by omega)), h n (Nat.lt_succ_self n), if_neg (by decide)]
theorem gP_not {k : Int32} {κ D : Nat → Int32} {m : Nat} (h : ¬ κ m = k) : gP k κ D m = false := by
  unfold gP
  rw [decide_eq_false h, Bool.and_false]
theorem gW_not {κ D : Nat → Int32} {m : Nat} (h3 : ¬ κ m = 3) (h5 : ¬ κ m = 5) : gW κ D m = false := by
  unfold gW
  rw [decide_eq_false h3, decide_eq_false h5, Bool.or_false, Bool.and_false]
theorem cls_collect (hX : PX O x c u p f w q s l E M S) (hn : 7000 ≤ n) :
    ∃ S', G_XSearch_collect O n s (p, 3) S = some ((), S') ∧ rFr s S S' JC ∧ S'.1 s 11 0 = nI (cnt (gW (S.1 w 0) (S.1 p 3)) M) ∧ S'.1 s 12 0 = nI (cnt (gP 3 (S.1 w 0) (S.1 p 3)) M) ∧ S'.1 s 10 0 = nI (cnt (gP 4 (S.1 w 0) (S.1 p 3)) M + (if S.1 p 3 2 = 0 then 0 else 1)) ∧ Lists (S'.1 s 4) (gW (S.1 w 0) (S.1 p 3)) 0 M ∧ Lists (S'.1 s 3) (gP 4 (S.1 w 0) (S.1 p 3)) 0 M ∧ (¬ S.1 p 3 2 = 0 → S'.1 s 3 (cnt (gP 4 (S.1 w 0) (S.1 p 3)) M) = nI 2) := by
  obtain ⟨hO, hE, hC, ⟨hM3, hlo, hhi⟩, h01, hcl, bW, bT⟩ := hX
  have NE := fun _ : Unit => ClO_ne hO
  have hO' := hO
  obtain ⟨⟨h1, h2, h3, h4, h5, h6, h7⟩, ⟨o1, o2, o3, o4, o5, o6, o7, o8, o9, o10, o11⟩, ⟨n1, n2, n3⟩, _, ⟨p3, p4, p5, p6⟩, _⟩ := hO
  have hM := hC.2.2.1
  have hM31 := (CS_big hC).1
  have sT := gT_cnt (S.1 w 0) (S.1 p 3) M
  have c2 : cnt (gP 2 (S.1 w 0) (S.1 p 3)) M = if S.1 p 3 2 = 0 then 0 else 1 := by
    have : cnt (gP 2 (S.1 w 0) (S.1 p 3)) M = cnt (fun m => gP 2 (S.1 w 0) (S.1 p 3) m && decide (m = 2)) M := cnt_congr (fun m hm => by
      cases q : gP 2 (S.1 w 0) (S.1 p 3) m with
      | false => rfl
      | true => rw [decide_eq_true ((k2_2 hC.2.2.2.1 hm).mp (gP_iff.mp q).2)]; rfl)
    rw [this, cnt_one (x := 2) (fun m q => by
      rw [Bool.and_eq_true, decide_eq_true_iff] at q
      exact q.2) (by omega), decide_eq_true rfl, Bool.and_true]
    by_cases d2 : S.1 p 3 2 = 0
    · rw [if_pos d2, if_neg]
      intro q
      exact (gP_iff.mp q).1 d2
    · rw [if_neg d2, if_pos (gP_iff.mpr ⟨d2, (k2_2 hC.2.2.2.1 (by omega)).mpr rfl⟩)]
  -- elements come before applications
  have e3 : ∀ i, i < M → S.1 w 0 i = 3 → cnt (gW (S.1 w 0) (S.1 p 3)) i = cnt (gP 3 (S.1 w 0) (S.1 p 3)) i := fun i hi k3 => by
    rw [gW_cnt, cnt_none (P := gP 5 (S.1 w 0) (S.1 p 3)) (fun m hm => gP_not (fun k5 => ?_)), Nat.add_zero]
    have hi' : i < 3 + E := Nat.lt_of_not_le fun z => hhi i z hi (by rw [k3]; decide)
    have := hlo m (by omega)
    rw [k5] at this
    exact absurd this (by decide)
  have loop : ∀ (d i fu : Nat) (T : qS), i + d = M → 3 ≤ i → d < fu → CoI2 p w s S T i → ∃ S', G_XSearch_collect_17 O n fu s (p, 3) (nI i) T = some ((), S') ∧ rFr s S S' JC ∧ S'.1 s 11 0 = nI (cnt (gW (S.1 w 0) (S.1 p 3)) M) ∧ S'.1 s 12 0 = nI (cnt (gP 3 (S.1 w 0) (S.1 p 3)) M) ∧ S'.1 s 10 0 = nI (cnt (gP 4 (S.1 w 0) (S.1 p 3)) M + (if S.1 p 3 2 = 0 then 0 else 1)) ∧ Lists (S'.1 s 4) (gW (S.1 w 0) (S.1 p 3)) 0 M ∧ Lists (S'.1 s 3) (gP 4 (S.1 w 0) (S.1 p 3)) 0 M ∧ (¬ S.1 p 3 2 = 0 → S'.1 s 3 (cnt (gP 4 (S.1 w 0) (S.1 p 3)) M) = nI 2) := by
    intro d
    induction d with
    | zero =>
      intro i fu T e hi hf hT
      obtain ⟨fu, rfl⟩ : ∃ q, fu = q + 1 := ⟨fu - 1, by omega⟩
      have e0 : i = M := by omega
      subst e0
      obtain ⟨g1, g2, g3, g4, g5, g6⟩ := hT
      have tw : T.1 w = S.1 w := g1.1.2 w (NE ()).2.2.1.2.1
      have tp : T.1 p = S.1 p := g1.1.2 p (NE ()).2.1.2.2.2.1
      have two : (2 : Nat) < oN O p 3 := by rw [p3]; omega
      rw [G_XSearch_collect_17, uO (ci := 8) h6 (by decide), o8, uI (ci := 3) n2.1 (by decide), tw, hC.2.1, if_pos (nI_le (by omega) (by omega)), show (2 : Int32) = nI 2 from rfl, ul (ci := 6) h4 (by decide) two (by omega), tp]
      unfold G_XSearch_collect_65
      by_cases d2 : S.1 p 3 2 = 0
      · rw [if_pos d2, if_pos d2, Nat.add_zero]
        exact ⟨T, rfl, g1, g3, g4, g2, g5, g6, fun z => absurd d2 z⟩
      · rw [if_neg d2, if_neg d2, uk (ci := 8) h6]
        rw [c2, if_neg d2] at sT
        obtain ⟨T', t1, t2, t3, t4, t5, t6, t7⟩ := cls_addTruth (n := n) (v := 2) hO' (show cnt (gP 4 (S.1 w 0) (S.1 p 3)) i < 6 by omega) g2
        rw [t1, yV_some]
        refine ⟨T', rfl, g1.trans t2, by rw [t6]; exact g3, by rw [t7]; exact g4, t3, by rw [t5]; exact g5, fun m hm hp => ?_, fun _ => ?_⟩
        · rw [t4]
          show (if 0 + cnt (gP 4 (S.1 w 0) (S.1 p 3)) m = cnt (gP 4 (S.1 w 0) (S.1 p 3)) i then nI 2 else T.1 s 3 (0 + cnt (gP 4 (S.1 w 0) (S.1 p 3)) m)) = nI m
          have := cnt_lt hm hp
          rw [if_neg (by omega)]
          exact g6 m hm hp
        · rw [t4]; exact if_pos rfl
    | succ d ih =>
      intro i fu T e hi hf hT
      obtain ⟨fu, rfl⟩ : ∃ q, fu = q + 1 := ⟨fu - 1, by omega⟩
      obtain ⟨g1, g2, g3, g4, g5, g6⟩ := hT
      have tw : T.1 w = S.1 w := g1.1.2 w (NE ()).2.2.1.2.1
      have tp : T.1 p = S.1 p := g1.1.2 p (NE ()).2.1.2.2.2.1
      have ip : i < oN O p 3 := by rw [p3]; omega
      have iw : i < oN O w 0 := by rw [n2.2.1 0 (by omega)]; omega
      have nxt : ∀ T2 : qS, CoI2 p w s S T2 (i + 1) → ∃ S', G_XSearch_collect_48 O n (G_XSearch_collect_17 O n fu) s (p, 3) (nI i) T2 = some ((), S') ∧ rFr s S S' JC ∧ S'.1 s 11 0 = nI (cnt (gW (S.1 w 0) (S.1 p 3)) M) ∧ S'.1 s 12 0 = nI (cnt (gP 3 (S.1 w 0) (S.1 p 3)) M) ∧ S'.1 s 10 0 = nI (cnt (gP 4 (S.1 w 0) (S.1 p 3)) M + (if S.1 p 3 2 = 0 then 0 else 1)) ∧ Lists (S'.1 s 4) (gW (S.1 w 0) (S.1 p 3)) 0 M ∧ Lists (S'.1 s 3) (gP 4 (S.1 w 0) (S.1 p 3)) 0 M ∧ (¬ S.1 p 3 2 = 0 → S'.1 s 3 (cnt (gP 4 (S.1 w 0) (S.1 p 3)) M) = nI 2) := fun T2 h2 => by
        unfold G_XSearch_collect_48
        rw [hB_eq, nI_1]
        exact ih (i + 1) fu T2 (by omega) (by omega) (by omega) h2
      have stay : gP 3 (S.1 w 0) (S.1 p 3) i = false → gP 4 (S.1 w 0) (S.1 p 3) i = false → gW (S.1 w 0) (S.1 p 3) i = false → CoI2 p w s S T (i + 1) := fun a b c => by
        refine ⟨g1, ?_, ?_, ?_, Lists_skip g5 c, Lists_skip g6 b⟩
        · rw [cnt_s, b, if_neg (by decide)]; exact g2
        · rw [cnt_s, c, if_neg (by decide)]; exact g3
        · rw [cnt_s, a, if_neg (by decide)]; exact g4
      have c3W : cnt (gW (S.1 w 0) (S.1 p 3)) i ≤ cnt (gW (S.1 w 0) (S.1 p 3)) M := cnt_mono (by omega)
      have word : gW (S.1 w 0) (S.1 p 3) i = true → ∃ T', G_XSearch_addWord O n s (nI i) T = some ((), T') ∧ rFr s S T' JC ∧ T'.1 s 11 0 = nI (cnt (gW (S.1 w 0) (S.1 p 3)) (i + 1)) ∧ Lists (T'.1 s 4) (gW (S.1 w 0) (S.1 p 3)) 0 (i + 1) ∧ T'.1 s 3 = T.1 s 3 ∧ T'.1 s 10 = T.1 s 10 ∧ T'.1 s 12 = T.1 s 12 := fun c => by
        have lt := cnt_lt (show i < M by omega) c
        obtain ⟨T', t1, t2, t3, t4, t5, t6, t7⟩ := cls_addWord (n := n) (v := i) hO' (show cnt (gW (S.1 w 0) (S.1 p 3)) i < 7 by omega) g3
        refine ⟨T', t1, g1.trans t2, by rw [cnt_s, if_pos c]; exact t3, ?_, t5, t6, t7⟩
        rw [t4]
        have := Lists_put g5 c
        rw [Nat.zero_add] at this
        exact this
      rw [G_XSearch_collect_17, uO (ci := 8) h6 (by decide), o8, uI (ci := 3) n2.1 (by decide), tw, hC.2.1, if_neg (nI_ge (by omega) (by omega)), ul (ci := 6) h4 (by decide) ip (by omega), tp]
      by_cases d0 : S.1 p 3 i = 0
      · rw [if_pos d0]
        refine nxt T (stay ?_ ?_ ?_)
        · unfold gP; rw [decide_eq_true d0]; rfl
        · unfold gP; rw [decide_eq_true d0]; rfl
        · unfold gW; rw [decide_eq_true d0]; rfl
      · rw [if_neg d0, uO (ci := 8) h6 (by decide), o8, uA (ci := 3) n2.1 (by decide), ul (ci := 3) n2.1 (by decide) iw (by omega), tw, uk (ci := 8) h6]
        unfold G_XSearch_collectNode G_XSearch_collectNode_23 G_XSearch_collectNode_41
        by_cases k4 : S.1 w 0 i = 4
        · have c4 : gP 4 (S.1 w 0) (S.1 p 3) i = true := gP_iff.mpr ⟨d0, k4⟩
          have lt := cnt_lt (show i < M by omega) c4
          obtain ⟨T', t1, t2, t3, t4, t5, t6, t7⟩ := cls_addTruth (n := n) (v := i) hO' (show cnt (gP 4 (S.1 w 0) (S.1 p 3)) i < 6 by omega) g2
          rw [if_pos k4, uk (ci := 8) h6, t1, yV_some, yV_some]
          refine nxt T' ⟨g1.trans t2, by rw [cnt_s, if_pos c4]; exact t3, ?_, ?_, ?_, ?_⟩
          · rw [cnt_s, gW_not (by rw [k4]; decide) (by rw [k4]; decide), if_neg (by decide), t6]; exact g3
          · rw [cnt_s, gP_not (by rw [k4]; decide), if_neg (by decide), t7]; exact g4
          · rw [t5]; exact Lists_skip g5 (gW_not (by rw [k4]; decide) (by rw [k4]; decide))
          · rw [t4]
            have := Lists_put g6 c4
            rw [Nat.zero_add] at this
            exact this
        · rw [if_neg k4]
          by_cases k3 : S.1 w 0 i = 3
          · have cw : gW (S.1 w 0) (S.1 p 3) i = true := gW_iff.mpr ⟨d0, Or.inl k3⟩
            have c3 : gP 3 (S.1 w 0) (S.1 p 3) i = true := gP_iff.mpr ⟨d0, k3⟩
            obtain ⟨T', t1, t2, t3, t4, t5, t6, t7⟩ := word cw
            rw [if_pos k3, uk (ci := 8) h6, t1, yV_some, if_pos k3, uI (ci := 8) h6 (by decide), t3, uP (ci := 8) h6 (by decide), yV_some]
            refine nxt _ ⟨t2.up (Or.inr (Or.inr (Or.inr (Or.inr rfl)))), ?_, ?_, ?_, ?_, ?_⟩
            · rw [up3_f (by decide), cnt_s, gP_not k4, if_neg (by decide), t6]; exact g2
            · rw [up3_f (by decide)]; exact t3
            · rw [up3_v, cnt_s, cnt_s, if_pos cw, if_pos c3, e3 i (by omega) k3]
            · rw [up3_f (by decide)]; exact t4
            · rw [up3_f (by decide), t5]; exact Lists_skip g6 (gP_not k4)
          · rw [if_neg k3]
            by_cases k5 : S.1 w 0 i = 5
            · have cw : gW (S.1 w 0) (S.1 p 3) i = true := gW_iff.mpr ⟨d0, Or.inr k5⟩
              obtain ⟨T', t1, t2, t3, t4, t5, t6, t7⟩ := word cw
              rw [if_pos k5, uk (ci := 8) h6, t1, yV_some, if_neg k3, yV_some]
              refine nxt T' ⟨t2, ?_, t3, ?_, t4, ?_⟩
              · rw [cnt_s, gP_not k4, if_neg (by decide), t6]; exact g2
              · rw [cnt_s, gP_not k3, if_neg (by decide), t7]; exact g4
              · rw [t5]; exact Lists_skip g6 (gP_not k4)
            · rw [if_neg k5, yV_some]
              exact nxt T (stay (gP_not k3) (gP_not k4) (gW_not k3 k5))
  unfold G_XSearch_collect
  rw [uP (ci := 8) h6 (by decide), uP (ci := 8) h6 (by decide), uP (ci := 8) h6 (by decide)]
  have lowk : ∀ m, m < 3 → S.1 w 0 m = nI m := fun m hm => by
    rcases hC.2.2.2.1.2.1 m (by omega) with ⟨_, z, _⟩ | ⟨z, _⟩
    · exact z
    · omega
  have ne : ∀ m k, m < 3 → 3 ≤ k → k < 10 → ¬ S.1 w 0 m = nI k := fun m k hm hk hk2 z => by
    rw [lowk m hm] at z
    have := (nI_eq (by omega) (by omega)).mp z
    omega
  have z4 : cnt (gP 4 (S.1 w 0) (S.1 p 3)) 3 = 0 := cnt_none (fun m hm => gP_not (ne m 4 hm (by omega) (by omega)))
  have z3 : cnt (gP 3 (S.1 w 0) (S.1 p 3)) 3 = 0 := cnt_none (fun m hm => gP_not (ne m 3 hm (by omega) (by omega)))
  have zw : cnt (gW (S.1 w 0) (S.1 p 3)) 3 = 0 := cnt_none (fun m hm => gW_not (ne m 3 hm (by omega) (by omega)) (ne m 5 hm (by omega) (by omega)))
  refine loop (M - 3) 3 n _ (by omega) (Nat.le_refl 3) (by omega) ⟨((rFr.refl.up (Or.inr (Or.inr (Or.inl rfl)))).up (Or.inr (Or.inr (Or.inr (Or.inl rfl))))).up (Or.inr (Or.inr (Or.inr (Or.inr rfl)))), ?_, ?_, ?_, fun m hm hp => ?_, fun m hm hp => ?_⟩
  · rw [up3_f (by decide), up3_f (by decide), up3_v, z4]; rfl
  · rw [up3_f (by decide), up3_v, zw]; rfl
  · rw [up3_v, z3]; rfl
  · rw [gW_not (ne m 3 hm (by omega) (by omega)) (ne m 5 hm (by omega) (by omega))] at hp
    exact absurd hp (by decide)
  · rw [gP_not (k := 4) (ne m 4 hm (by omega) (by omega))] at hp
    exact absurd hp (by decide)
end COLLECT
