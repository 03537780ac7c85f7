section TOLD2
variable {O : qOb9} {r n E N : Nat} {S : qS}
theorem lay_choice (hF : Store (S.1 r 3) (S.1 r 4) (S.1 r 5) (S.1 r 6) E N) (hN : N ≤ 6400) {c a b : Int32} (hc : inN c N = true) (ha : inN a N = true) (hb : inN b N = true) (wc : fW S r c = false) (we : fW S r a = fW S r b) : Lay r S E N 9 c a b := by
  intro κ α β γ ag e1 e2 e3 e4 hp
  have h3 := hF.1
  obtain ⟨z, hz, rfl⟩ := (inN_iff (by omega)).mp hc
  obtain ⟨x, hx, rfl⟩ := (inN_iff (by omega)).mp ha
  obtain ⟨y, hy, rfl⟩ := (inN_iff (by omega)).mp hb
  obtain ⟨t1, t2⟩ := plain_turn (k := 9) (a := nI z) (b := nI x) (by decide) (by decide)
  rw [t1] at e2
  rw [t2] at e3
  rw [fW_nI (by omega)] at wc
  rw [fW_nI (by omega), fW_nI (by omega)] at we
  unfold rPl at hp
  rw [if_neg (by decide), if_neg (by decide), if_neg (by decide), if_pos rfl] at hp
  by_cases c1 : nI z = 1
  · rw [if_pos c1] at hp; exact absurd hp (nI_pos (by omega))
  rw [if_neg c1] at hp
  by_cases c0 : nI z = 0
  · rw [if_pos c0] at hp; exact absurd hp (nI_pos (by omega))
  rw [if_neg c0] at hp
  by_cases ab : nI x = nI y
  · rw [if_pos ab] at hp; exact absurd hp (nI_pos (by omega))
  have w := Lay_w hF hN ag
  exact Or.inr ⟨h3, Or.inr (Or.inr (Or.inr (Or.inr (Or.inr ⟨e1, z, x, y, nI_small (by omega) c0 c1, hz, hx, hy, fun q => ab (by rw [q]), e2, e3, e4, by rw [w z hz]; exact wc, by rw [w x hx, w y hy]; exact we⟩))))⟩
theorem lay_apply (hF : Store (S.1 r 3) (S.1 r 4) (S.1 r 5) (S.1 r 6) E N) (hN : N ≤ 6400) {f a b : Int32} (hf : (decide (0 ≤ f) && decide (f ≤ 7)) = true) (ha : inN a N = true) (hb : inO b N = true) (wa : fW S r a = true) (wb : (decide (b = -1) || fW S r b) = true) : Lay r S E N 5 a b f := by
  intro κ α β γ ag e1 e2 e3 e4 hp
  have h3 := hF.1
  obtain ⟨x, hx, rfl⟩ := (inN_iff (by omega)).mp ha
  obtain ⟨t1, t2⟩ := plain_turn (k := 5) (a := nI x) (b := b) (by decide) (by decide)
  rw [t1] at e2
  rw [t2] at e3
  rw [fW_nI (by omega)] at wa
  rw [Bool.and_eq_true, decide_eq_true_iff, decide_eq_true_iff] at hf
  obtain ⟨g, hg, rfl⟩ := nI_of (Int32.not_lt.mpr hf.1)
  have hg8 : g < 8 := by
    have := (nI_leI (a := g) (b := 7) hg (by decide)).mp hf.2
    omega
  have w := Lay_w hF hN ag
  refine Or.inr ⟨h3, Or.inr (Or.inl ⟨e1, ⟨x, hx, e2, by rw [w x hx]; exact wa⟩, ?_, g, hg8, e4⟩)⟩
  by_cases b1 : b = -1
  · exact Or.inl (e3.trans b1)
  · unfold inO at hb
    rw [decide_eq_false b1, Bool.false_or] at hb wb
    obtain ⟨y, hy, rfl⟩ := (inN_iff (by omega)).mp hb
    rw [fW_nI (by omega)] at wb
    exact Or.inr ⟨y, hy, e3, by rw [w y hy]; exact wb⟩
/-- an answer of the reference: v, thrown, and the face's growth -/
def Ans (r : Nat) (S S' : qS) (E N : Nat) (k a b c v : Int32) : Prop := rOnly r S S' ∧ Told r (thr S r 0) S' E N k a b c 3 v ∧ (S' = thr S r 0 ∨ S'.1 r 2 0 = S'.1 r 1 0)
theorem ref_equal (h : Ref O r) (hn : 7000 ≤ n) (hF : Face r S E N) (a b : Int32) :
    (¬ (inN a N && inN b N) = true → G_XModel_equal O n r a b S = some (0, thr S r 1)) ∧
    ((inN a N && inN b N) = true → ¬ (fW S r a && fW S r b) = true → G_XModel_equal O n r a b S = some (0, thr S r 2)) ∧
    ((inN a N && inN b N) = true → (fW S r a && fW S r b) = true → ∃ v S', G_XModel_equal O n r a b S = some (v, S') ∧ Ans r S S' E N 6 a b (-1) v) := by
  rw [face_equal h hn hF]
  refine ⟨fun q => by rw [Bool.not_eq_true] at q; rw [q]; rfl, fun q q2 => by rw [Bool.not_eq_true] at q2; rw [q, q2]; rfl, fun q q2 => ?_⟩
  rw [q, q2]
  rw [Bool.and_eq_true] at q q2
  have h0 := Face.thr (x := 0) hF
  obtain ⟨v, S', e, o, t⟩ := face_told (O := O) (n := n) (code := 3) h hn h0 (k := 6) (a := a) (b := b) (c := -1) (fun z => absurd z (by decide)) (lay_equal h0.2.2.2.2 (Nat.le_trans h0.2.2.1 (by decide)) q.1 q.2 (by rw [fW_thr]; exact q2.1) (by rw [fW_thr]; exact q2.2))
  exact ⟨v, S', e, thr_only.trans o, t⟩
theorem ref_both (h : Ref O r) (hn : 7000 ≤ n) (hF : Face r S E N) (a b : Int32) :
    (¬ (inN a N && inN b N) = true → G_XModel_both O n r a b S = some (0, thr S r 1)) ∧
    ((inN a N && inN b N) = true → ¬ (!fW S r a && !fW S r b) = true → G_XModel_both O n r a b S = some (0, thr S r 2)) ∧
    ((inN a N && inN b N) = true → (!fW S r a && !fW S r b) = true → ∃ v S', G_XModel_both O n r a b S = some (v, S') ∧ Ans r S S' E N 8 a b (-1) v) := by
  rw [face_both h hn hF]
  refine ⟨fun q => by rw [Bool.not_eq_true] at q; rw [q]; rfl, fun q q2 => by rw [Bool.not_eq_true] at q2; rw [q, q2]; rfl, fun q q2 => ?_⟩
  rw [q, q2]
  rw [Bool.and_eq_true] at q q2
  have h0 := Face.thr (x := 0) hF
  obtain ⟨v, S', e, o, t⟩ := face_told (O := O) (n := n) (code := 3) h hn h0 (k := 8) (a := a) (b := b) (c := -1) (fun z => absurd z (by decide)) (lay_both h0.2.2.2.2 (Nat.le_trans h0.2.2.1 (by decide)) q.1 q.2 (by rw [fW_thr]; exact (Bool.not_eq_true' _).mp q2.1) (by rw [fW_thr]; exact (Bool.not_eq_true' _).mp q2.2))
  exact ⟨v, S', e, thr_only.trans o, t⟩
theorem ref_not (h : Ref O r) (hn : 7000 ≤ n) (hF : Face r S E N) (a : Int32) :
    (¬ inN a N = true → G_XModel_not O n r a S = some (0, thr S r 1)) ∧
    (inN a N = true → ¬ (!fW S r a) = true → G_XModel_not O n r a S = some (0, thr S r 2)) ∧
    (inN a N = true → (!fW S r a) = true → ∃ v S', G_XModel_not O n r a S = some (v, S') ∧ Ans r S S' E N 7 a (-1) (-1) v) := by
  rw [face_not h hn hF]
  refine ⟨fun q => by rw [Bool.not_eq_true] at q; rw [q]; rfl, fun q q2 => by rw [Bool.not_eq_true] at q2; rw [q, q2]; rfl, fun q q2 => ?_⟩
  rw [q, q2]
  have h0 := Face.thr (x := 0) hF
  have hN := hF.2.2.1
  obtain ⟨m, hm, hm2⟩ := (inN_iff (by omega)).mp q
  obtain ⟨v, S', e, o, t⟩ := face_told (O := O) (n := n) (code := 3) h hn h0 (k := 7) (a := a) (b := -1) (c := -1) (fun _ => ⟨m, by omega, hm2⟩) (lay_not h0.2.2.2.2 (Nat.le_trans h0.2.2.1 (by decide)) q (by rw [fW_thr]; exact (Bool.not_eq_true' _).mp q2))
  exact ⟨v, S', e, thr_only.trans o, t⟩
theorem ref_choice (h : Ref O r) (hn : 7000 ≤ n) (hF : Face r S E N) (c a b : Int32) :
    (¬ (inN c N && (inN a N && inN b N)) = true → G_XModel_choice O n r c a b S = some (0, thr S r 1)) ∧
    ((inN c N && (inN a N && inN b N)) = true → ¬ (!fW S r c && (fW S r a == fW S r b)) = true → G_XModel_choice O n r c a b S = some (0, thr S r 2)) ∧
    ((inN c N && (inN a N && inN b N)) = true → (!fW S r c && (fW S r a == fW S r b)) = true → ∃ v S', G_XModel_choice O n r c a b S = some (v, S') ∧ Ans r S S' E N 9 c a b v) := by
  rw [face_choice h hn hF]
  refine ⟨fun q => by rw [Bool.not_eq_true] at q; rw [q]; rfl, fun q q2 => by rw [Bool.not_eq_true] at q2; rw [q, q2]; rfl, fun q q2 => ?_⟩
  rw [q, q2]
  rw [Bool.and_eq_true, Bool.and_eq_true] at q
  rw [Bool.and_eq_true] at q2
  have h0 := Face.thr (x := 0) hF
  obtain ⟨v, S', e, o, t⟩ := face_told (O := O) (n := n) (code := 3) h hn h0 (k := 9) (a := c) (b := a) (c := b) (fun z => absurd z (by decide)) (lay_choice h0.2.2.2.2 (Nat.le_trans h0.2.2.1 (by decide)) q.1 q.2.1 q.2.2 (by rw [fW_thr]; exact (Bool.not_eq_true' _).mp q2.1) (by rw [fW_thr, fW_thr]; exact eq_of_beq q2.2))
  exact ⟨v, S', e, thr_only.trans o, t⟩
theorem ref_apply (h : Ref O r) (hn : 7000 ≤ n) (hF : Face r S E N) (f a b : Int32) :
    (¬ (inN a N && inO b N) = true → G_XModel_apply O n r f a b S = some (0, thr S r 1)) ∧
    ((inN a N && inO b N) = true → ¬ ((decide (0 ≤ f) && decide (f ≤ 7)) && (fW S r a && (decide (b = -1) || fW S r b))) = true → G_XModel_apply O n r f a b S = some (0, thr S r 2)) ∧
    ((inN a N && inO b N) = true → ((decide (0 ≤ f) && decide (f ≤ 7)) && (fW S r a && (decide (b = -1) || fW S r b))) = true → ∃ v S', G_XModel_apply O n r f a b S = some (v, S') ∧ Ans r S S' E N 5 a b f v) := by
  rw [face_apply h hn hF]
  refine ⟨fun q => by rw [Bool.not_eq_true] at q; rw [q]; rfl, fun q q2 => by rw [Bool.not_eq_true] at q2; rw [q, q2]; rfl, fun q q2 => ?_⟩
  rw [q, q2]
  rw [Bool.and_eq_true] at q
  have q3 := q2
  rw [Bool.and_eq_true] at q2
  obtain ⟨qf, qw⟩ := q2
  rw [Bool.and_eq_true] at qw
  have h0 := Face.thr (x := 0) hF
  obtain ⟨v, S', e, o, t⟩ := face_told (O := O) (n := n) (code := 3) h hn h0 (k := 5) (a := a) (b := b) (c := f) (fun z => absurd z (by decide)) (lay_apply h0.2.2.2.2 (Nat.le_trans h0.2.2.1 (by decide)) qf q.1 q.2 (by rw [fW_thr]; exact qw.1) (by rw [fW_thr]; exact qw.2))
  exact ⟨v, S', e, thr_only.trans o, t⟩
end TOLD2
