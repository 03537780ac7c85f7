/-! THE REFERENCE MAKES NODES, BY CODE -/
abbrev rCd (S : qS) (r n : Nat) : Nat := cd (S.1 r 3) (S.1 r 4) (S.1 r 5) (S.1 r 6) n
/-- node v of code c was made -/
def MkR (r E : Nat) (S S' : qS) (A A' v c : Nat) : Prop := v < A' ∧ A ≤ A' ∧ A' ≤ A + 1 ∧ Ext r S' E A' ∧ rOnly r S S' ∧ (∀ j i, j ≠ 7 → j ≠ 8 → j ≠ 2 → ¬ (3 ≤ j ∧ j ≤ 6 ∧ A ≤ i) → S'.1 r j i = S.1 r j i) ∧ rCd S' r v = c ∧ ∀ m, A ≤ m → m < A' → ¬ S'.1 r 3 m ≤ 4
section RMAKE
variable {O : qOb9} {r n E A : Nat} {S : qS}
theorem ext_cd {S' : qS} (hX : Ext r S E A) (hs : ∀ j i, j ≠ 7 → j ≠ 8 → j ≠ 2 → ¬ (3 ≤ j ∧ j ≤ 6 ∧ A ≤ i) → S'.1 r j i = S.1 r j i) {m : Nat} (hm : m < A) : rCd S' r m = rCd S r m :=
  cd_congr (N := A) hX.2.2.1.2.1 (by have := hX.2.1; omega) (fun q hq => ⟨hs 3 q (by decide) (by decide) (by decide) (by omega), hs 4 q (by decide) (by decide) (by decide) (by omega), hs 5 q (by decide) (by decide) (by decide) (by omega), hs 6 q (by decide) (by decide) (by decide) (by omega)⟩) m hm
theorem new_k {S' : qS} {A' : Nat} {k : Int32} (h : A' = A ∨ (A' = A + 1 ∧ S'.1 r 3 A = k)) (hk : ¬ k ≤ 4) : ∀ m, A ≤ m → m < A' → ¬ S'.1 r 3 m ≤ 4 := by
  intro m h1 h2
  rcases h with q | ⟨q, e⟩
  · omega
  · have : m = A := by omega
    rw [this, e]; exact hk
theorem inN_nI {x A : Nat} (hA : A < 2 ^ 31) (hx : x < A) : inN (nI x) A = true := (inN_iff hA).mpr ⟨x, hx, rfl⟩
theorem ext_mk6 (h : Ref O r) (hn : 7000 ≤ n) (hX : Ext r S E A) (hA : A < 6400) (hE : E ≤ 16) {x y : Nat} (hx : x < A) (hy : y < A) (wx : wd (S.1 r 3) (S.1 r 5) x = true) (wy : wd (S.1 r 3) (S.1 r 5) y = true) :
    ∃ v A' S', G_XModel_make O n r 6 (nI x) (nI y) (-1) S = some (nI v, S') ∧ MkR r E S S' A A' v (mkE (rCd S r x) (rCd S r y)) := by
  have h3 := hX.2.2.1.1
  have hL : Lay r S E A 6 (nI x) (nI y) (-1) := lay_equal hX.2.2.1 hX.2.1 (inN_nI (by omega) hx) (inN_nI (by omega) hy) (by rw [fW_nI (by omega)]; exact wx) (by rw [fW_nI (by omega)]; exact wy)
  have pl6 : rPl (S.1 r) 6 (nI x) (nI y) (-1) = if nI x = nI y then 1 else -1 := by unfold rPl; rw [if_pos rfl]
  obtain ⟨v, A', S', e, v1, v2, v3, v4, v5, v6, v7, v8⟩ := ext_make (O := O) (n := n) h hn hX hA (k := 6) (fun q => absurd q (by decide)) hL (fun q => by
    rw [pl6] at q ⊢
    by_cases z : nI x = nI y
    · rw [if_pos z]; exact ⟨1, by omega, rfl⟩
    · rw [if_neg z] at q; exact absurd (by decide) q)
  refine ⟨v, A', S', e, v1, v2, v3, v4, v5, v6, ?_, new_k v8 (by decide)⟩
  have hN' : A' < 2 ^ 31 := by omega
  rw [← ext_cd hX v6 hx, ← ext_cd hX v6 hy]
  rcases v7 with ⟨p1', p2'⟩ | ⟨p1', k, a, b, c⟩
  · rw [pl6] at p1' p2'
    by_cases z : nI x = nI y
    · rw [if_pos z] at p2'
      have hv := (nI_eq (a := 1) (b := v) (by decide) (by omega)).mp p2'
      have hxy := (nI_eq (by omega) (by omega)).mp z
      rw [← hv, hxy, mkE_same]
      exact (cd_0 v4.2.2.1 hN' hE).2.1
    · rw [if_neg z] at p1'; exact absurd (by decide) p1'
  · rw [pl6] at p1'
    by_cases z : nI x = nI y
    · rw [if_pos z] at p1'; exact absurd p1' (by decide)
    · obtain ⟨t1, t2⟩ := turned (k := 6) (x := x) (y := y) (Or.inl rfl) (by omega) (by omega)
      rw [t1] at a
      rw [t2] at b
      exact mkE_row v4.2.2.1 hN' hE (by omega) (by omega) v1 (fun q => z (by rw [q])) k a b
theorem ext_mk7 (h : Ref O r) (hn : 7000 ≤ n) (hX : Ext r S E A) (hA : A < 6400) (hE : E ≤ 16) {x : Nat} (hx : x < A) (wx : wd (S.1 r 3) (S.1 r 5) x = false) :
    ∃ v A' S', G_XModel_make O n r 7 (nI x) (-1) (-1) S = some (nI v, S') ∧ MkR r E S S' A A' v (mkN (rCd S r x)) := by
  have h3 := hX.2.2.1.1
  have hL : Lay r S E A 7 (nI x) (-1) (-1) := lay_not hX.2.2.1 hX.2.1 (inN_nI (by omega) hx) (by rw [fW_nI (by omega)]; exact wx)
  have pl7 : rPl (S.1 r) 7 (nI x) (-1) (-1) = if nI x = 1 then 0 else if nI x = 0 then 1 else if S.1 r 3 x = 7 then S.1 r 4 x else -1 := by
    unfold rPl; rw [if_neg (by decide), if_pos rfl, nI_clamp (by omega)]
  have part : S.1 r 3 x = 7 → ∃ q, q < x ∧ S.1 r 4 x = nI q := fun k => by
    obtain ⟨_, q, _, hq, _, e, _⟩ := row_7 hX.2.2.1.2.1 (by omega) hE hx k
    exact ⟨q, hq, e⟩
  obtain ⟨v, A', S', e, v1, v2, v3, v4, v5, v6, v7, v8⟩ := ext_make (O := O) (n := n) h hn hX hA (k := 7) (fun _ => ⟨x, hx, rfl⟩) hL (fun q => by
    rw [pl7] at q ⊢
    by_cases z1 : nI x = 1
    · rw [if_pos z1]; exact ⟨0, by omega, rfl⟩
    · rw [if_neg z1] at q ⊢
      by_cases z0 : nI x = 0
      · rw [if_pos z0]; exact ⟨1, by omega, rfl⟩
      · rw [if_neg z0] at q ⊢
        by_cases k : S.1 r 3 x = 7
        · rw [if_pos k]
          obtain ⟨u, hu, eu⟩ := part k
          exact ⟨u, by omega, eu⟩
        · rw [if_neg k] at q; exact absurd (by decide) q)
  refine ⟨v, A', S', e, v1, v2, v3, v4, v5, v6, ?_, new_k v8 (by decide)⟩
  have hN' : A' < 2 ^ 31 := by omega
  have st := v4.2.2.1
  rw [← ext_cd hX v6 hx]
  have e3 : S'.1 r 3 x = S.1 r 3 x := v6 3 x (by decide) (by decide) (by decide) (by omega)
  have e4 : S'.1 r 4 x = S.1 r 4 x := v6 4 x (by decide) (by decide) (by decide) (by omega)
  rcases v7 with ⟨p1', p2'⟩ | ⟨p1', k, a, b, c⟩
  · rw [pl7] at p1' p2'
    by_cases z1 : nI x = 1
    · rw [if_pos z1] at p2'
      have hv := (nI_eq (a := 0) (b := v) (by decide) (by omega)).mp p2'
      have hx1 := (nI_eq (a := x) (b := 1) (by omega) (by decide)).mp z1
      rw [← hv, hx1, show rCd S' r 1 = cT from (cd_0 st hN' hE).2.1, mkN_T]
      exact (cd_0 st hN' hE).1
    · rw [if_neg z1] at p1' p2'
      by_cases z0 : nI x = 0
      · rw [if_pos z0] at p2'
        have hv := (nI_eq (a := 1) (b := v) (by decide) (by omega)).mp p2'
        have hx0 := (nI_eq (a := x) (b := 0) (by omega) (by decide)).mp z0
        rw [← hv, hx0, show rCd S' r 0 = cF from (cd_0 st hN' hE).1, mkN_F]
        exact (cd_0 st hN' hE).2.1
      · rw [if_neg z0] at p1' p2'
        by_cases k : S.1 r 3 x = 7
        · rw [if_pos k] at p2'
          exact (mkN_part st hN' hE (by omega) (by rw [e3]; exact k) (by rw [e4]; exact p2') (by omega)).symm
        · rw [if_neg k] at p1'; exact absurd (by decide) p1'
  · rw [pl7] at p1'
    obtain ⟨t1, t2⟩ := plain_turn (k := 7) (a := nI x) (b := -1) (by decide) (by decide)
    rw [t1] at a
    by_cases z1 : nI x = 1
    · rw [if_pos z1] at p1'; exact absurd p1' (by decide)
    · rw [if_neg z1] at p1'
      by_cases z0 : nI x = 0
      · rw [if_pos z0] at p1'; exact absurd p1' (by decide)
      · rw [if_neg z0] at p1'
        by_cases k7 : S.1 r 3 x = 7
        · rw [if_pos k7] at p1'
          obtain ⟨u, hu, eu⟩ := part k7
          rw [eu] at p1'
          exact absurd p1' (nI_pos (by omega))
        · exact mkN_row st hN' hE (by omega) v1 (nI_small (by omega) z0 z1) (by rw [e3]; exact k7) k a
theorem ext_mk8 (h : Ref O r) (hn : 7000 ≤ n) (hX : Ext r S E A) (hA : A < 6400) (hE : E ≤ 16) {x y : Nat} (hx : x < A) (hy : y < A) (wx : wd (S.1 r 3) (S.1 r 5) x = false) (wy : wd (S.1 r 3) (S.1 r 5) y = false) :
    ∃ v A' S', G_XModel_make O n r 8 (nI x) (nI y) (-1) S = some (nI v, S') ∧ MkR r E S S' A A' v (mkB (rCd S r x) (rCd S r y)) := by
  have h3 := hX.2.2.1.1
  have hL : Lay r S E A 8 (nI x) (nI y) (-1) := lay_both hX.2.2.1 hX.2.1 (inN_nI (by omega) hx) (inN_nI (by omega) hy) (by rw [fW_nI (by omega)]; exact wx) (by rw [fW_nI (by omega)]; exact wy)
  have pl8 : rPl (S.1 r) 8 (nI x) (nI y) (-1) = if nI x = 0 then 0 else if nI y = 0 then 0 else if nI x = 1 then nI y else if nI y = 1 then nI x else if nI x = nI y then nI x else -1 := by
    unfold rPl; rw [if_neg (by decide), if_neg (by decide), if_pos rfl]
  obtain ⟨v, A', S', e, v1, v2, v3, v4, v5, v6, v7, v8⟩ := ext_make (O := O) (n := n) h hn hX hA (k := 8) (fun q => absurd q (by decide)) hL (fun q => by
    rw [pl8] at q ⊢
    by_cases x0 : nI x = 0
    · rw [if_pos x0]; exact ⟨0, by omega, rfl⟩
    rw [if_neg x0] at q ⊢
    by_cases y0 : nI y = 0
    · rw [if_pos y0]; exact ⟨0, by omega, rfl⟩
    rw [if_neg y0] at q ⊢
    by_cases x1 : nI x = 1
    · rw [if_pos x1]; exact ⟨y, hy, rfl⟩
    rw [if_neg x1] at q ⊢
    by_cases y1 : nI y = 1
    · rw [if_pos y1]; exact ⟨x, hx, rfl⟩
    rw [if_neg y1] at q ⊢
    by_cases z : nI x = nI y
    · rw [if_pos z]; exact ⟨x, hx, rfl⟩
    · rw [if_neg z] at q; exact absurd (by decide) q)
  refine ⟨v, A', S', e, v1, v2, v3, v4, v5, v6, ?_, new_k v8 (by decide)⟩
  have hN' : A' < 2 ^ 31 := by omega
  have st := v4.2.2.1
  rw [← ext_cd hX v6 hx, ← ext_cd hX v6 hy]
  have eF : rCd S' r 0 = cF := (cd_0 st hN' hE).1
  have eT : rCd S' r 1 = cT := (cd_0 st hN' hE).2.1
  have iq : ∀ {a b : Nat}, a < A' → b < A' → nI a = nI b → a = b := fun ha hb q => (nI_eq (by omega) (by omega)).mp q
  rw [pl8] at v7
  by_cases x0 : nI x = 0
  · rw [if_pos x0] at v7
    have hx0 := iq (a := x) (b := 0) (by omega) (by omega) x0
    rcases v7 with ⟨-, p⟩ | ⟨p, -⟩
    · rw [← iq (a := 0) (b := v) (by omega) v1 p, hx0, eF, mkB_F1]
    · exact absurd p (by decide)
  rw [if_neg x0] at v7
  by_cases y0 : nI y = 0
  · rw [if_pos y0] at v7
    have hy0 := iq (a := y) (b := 0) (by omega) (by omega) y0
    rcases v7 with ⟨-, p⟩ | ⟨p, -⟩
    · rw [← iq (a := 0) (b := v) (by omega) v1 p, hy0, eF, mkB_F2]
    · exact absurd p (by decide)
  rw [if_neg y0] at v7
  by_cases x1 : nI x = 1
  · rw [if_pos x1] at v7
    have hx1 := iq (a := x) (b := 1) (by omega) (by omega) x1
    rcases v7 with ⟨-, p⟩ | ⟨p, -⟩
    · rw [← iq (by omega) v1 p, hx1, eT, mkB_T1]
    · exact absurd p (nI_pos (by omega))
  rw [if_neg x1] at v7
  by_cases y1 : nI y = 1
  · rw [if_pos y1] at v7
    have hy1 := iq (a := y) (b := 1) (by omega) (by omega) y1
    rcases v7 with ⟨-, p⟩ | ⟨p, -⟩
    · rw [← iq (by omega) v1 p, hy1, eT, mkB_T2]
    · exact absurd p (nI_pos (by omega))
  rw [if_neg y1] at v7
  by_cases z : nI x = nI y
  · rw [if_pos z] at v7
    have hxy := iq (by omega) (by omega) z
    rcases v7 with ⟨-, p⟩ | ⟨p, -⟩
    · rw [← iq (by omega) v1 p, ← hxy, mkB_same]
    · exact absurd p (nI_pos (by omega))
  · rw [if_neg z] at v7
    rcases v7 with ⟨p, -⟩ | ⟨-, k, a, b, c⟩
    · exact absurd (by decide) p
    · obtain ⟨t1, t2⟩ := turned (k := 8) (x := x) (y := y) (Or.inr rfl) (by omega) (by omega)
      rw [t1] at a
      rw [t2] at b
      exact mkB_row st hN' hE (by omega) (by omega) v1 (fun q => z (by rw [q])) (nI_small (by omega) x0 x1) (nI_small (by omega) y0 y1) k a b
theorem ext_mk9 (h : Ref O r) (hn : 7000 ≤ n) (hX : Ext r S E A) (hA : A < 6400) (hE : E ≤ 16) {z x y : Nat} (hz : z < A) (hx : x < A) (hy : y < A) (wz : wd (S.1 r 3) (S.1 r 5) z = false) (we : wd (S.1 r 3) (S.1 r 5) x = wd (S.1 r 3) (S.1 r 5) y) :
    ∃ v A' S', G_XModel_make O n r 9 (nI z) (nI x) (nI y) S = some (nI v, S') ∧ MkR r E S S' A A' v (mkC (rCd S r z) (rCd S r x) (rCd S r y)) := by
  have h3 := hX.2.2.1.1
  have hL : Lay r S E A 9 (nI z) (nI x) (nI y) := lay_choice hX.2.2.1 hX.2.1 (inN_nI (by omega) hz) (inN_nI (by omega) hx) (inN_nI (by omega) hy) (by rw [fW_nI (by omega)]; exact wz) (by rw [fW_nI (by omega), fW_nI (by omega)]; exact we)
  have pl9 : rPl (S.1 r) 9 (nI z) (nI x) (nI y) = if nI z = 1 then nI x else if nI z = 0 then nI y else if nI x = nI y then nI x else -1 := by
    unfold rPl; rw [if_neg (by decide), if_neg (by decide), if_neg (by decide), if_pos rfl]
  obtain ⟨v, A', S', e, v1, v2, v3, v4, v5, v6, v7, v8⟩ := ext_make (O := O) (n := n) h hn hX hA (k := 9) (fun q => absurd q (by decide)) hL (fun q => by
    rw [pl9] at q ⊢
    by_cases z1 : nI z = 1
    · rw [if_pos z1]; exact ⟨x, hx, rfl⟩
    rw [if_neg z1] at q ⊢
    by_cases z0 : nI z = 0
    · rw [if_pos z0]; exact ⟨y, hy, rfl⟩
    rw [if_neg z0] at q ⊢
    by_cases w : nI x = nI y
    · rw [if_pos w]; exact ⟨x, hx, rfl⟩
    · rw [if_neg w] at q; exact absurd (by decide) q)
  refine ⟨v, A', S', e, v1, v2, v3, v4, v5, v6, ?_, new_k v8 (by decide)⟩
  have hN' : A' < 2 ^ 31 := by omega
  have st := v4.2.2.1
  rw [← ext_cd hX v6 hx, ← ext_cd hX v6 hy, ← ext_cd hX v6 hz]
  have eF : rCd S' r 0 = cF := (cd_0 st hN' hE).1
  have eT : rCd S' r 1 = cT := (cd_0 st hN' hE).2.1
  have iq : ∀ {a b : Nat}, a < A' → b < A' → nI a = nI b → a = b := fun ha hb q => (nI_eq (by omega) (by omega)).mp q
  rw [pl9] at v7
  by_cases z1 : nI z = 1
  · rw [if_pos z1] at v7
    have hz1 := iq (a := z) (b := 1) (by omega) (by omega) z1
    rcases v7 with ⟨-, p⟩ | ⟨p, -⟩
    · rw [← iq (by omega) v1 p, hz1, eT, mkC_T]
    · exact absurd p (nI_pos (by omega))
  rw [if_neg z1] at v7
  by_cases z0 : nI z = 0
  · rw [if_pos z0] at v7
    have hz0 := iq (a := z) (b := 0) (by omega) (by omega) z0
    rcases v7 with ⟨-, p⟩ | ⟨p, -⟩
    · rw [← iq (by omega) v1 p, hz0, eF, mkC_F]
    · exact absurd p (nI_pos (by omega))
  rw [if_neg z0] at v7
  by_cases w : nI x = nI y
  · rw [if_pos w] at v7
    have hxy := iq (by omega) (by omega) w
    rcases v7 with ⟨-, p⟩ | ⟨p, -⟩
    · rw [← iq (by omega) v1 p, ← hxy, mkC_same]
    · exact absurd p (nI_pos (by omega))
  · rw [if_neg w] at v7
    rcases v7 with ⟨p, -⟩ | ⟨-, k, a, b, c⟩
    · exact absurd (by decide) p
    · obtain ⟨t1, t2⟩ := plain_turn (k := 9) (a := nI z) (b := nI x) (by decide) (by decide)
      rw [t1] at a
      rw [t2] at b
      exact mkC_row st hN' hE (by omega) (by omega) (by omega) v1 (fun q => w (by rw [q])) (nI_small (by omega) z0 z1) k a b c
theorem ext_mk5 (h : Ref O r) (hn : 7000 ≤ n) (hX : Ext r S E A) (hA : A < 6400) (hE : E ≤ 16) {x g : Nat} {b : Int32} (hx : x < A) (wx : wd (S.1 r 3) (S.1 r 5) x = true) (hg : g < 8) (hb : b = -1 ∨ ∃ y, y < A ∧ b = nI y ∧ wd (S.1 r 3) (S.1 r 5) y = true) :
    ∃ v A' S', G_XModel_make O n r 5 (nI x) b (nI g) S = some (nI v, S') ∧ MkR r E S S' A A' v (cA g (rCd S r x) (if b < 0 then 0 else rCd S r b.toNatClampNeg + 1)) := by
  have h3 := hX.2.2.1.1
  have hg' : (decide (0 ≤ nI g) && decide (nI g ≤ 7)) = true := by
    rw [Bool.and_eq_true, decide_eq_true_iff, decide_eq_true_iff]
    exact ⟨nI_pos' (by omega), nI_le (b := 7) (by omega) (by decide)⟩
  have hL : Lay r S E A 5 (nI x) b (nI g) := lay_apply hX.2.2.1 hX.2.1 hg' (inN_nI (by omega) hx) (by
    unfold inO
    rcases hb with q | ⟨y, hy, q, _⟩
    · rw [decide_eq_true q]; rfl
    · rw [q, inN_nI (by omega) hy, Bool.or_true]) (by rw [fW_nI (by omega)]; exact wx) (by
    rcases hb with q | ⟨y, hy, q, w⟩
    · rw [decide_eq_true q]; rfl
    · rw [q, fW_nI (by omega), w, Bool.or_true])
  have pl5 : rPl (S.1 r) 5 (nI x) b (nI g) = -1 := by
    unfold rPl; rw [if_neg (by decide), if_neg (by decide), if_neg (by decide), if_neg (by decide)]
  obtain ⟨v, A', S', e, v1, v2, v3, v4, v5, v6, v7, v8⟩ := ext_make (O := O) (n := n) h hn hX hA (k := 5) (fun q => absurd q (by decide)) hL (fun q => by
    rw [pl5] at q; exact absurd (by decide) q)
  refine ⟨v, A', S', e, v1, v2, v3, v4, v5, v6, ?_, new_k v8 (by decide)⟩
  have hN' : A' < 2 ^ 31 := by omega
  have st := v4.2.2.1
  rw [pl5] at v7
  rcases v7 with ⟨p, -⟩ | ⟨-, k, a, b', c⟩
  · exact absurd (by decide) p
  · obtain ⟨t1, t2⟩ := plain_turn (k := 5) (a := nI x) (b := b) (by decide) (by decide)
    rw [t1] at a
    rw [t2] at b'
    rw [← ext_cd hX v6 hx]
    rcases hb with q | ⟨y, hy, q, w⟩
    · rw [q, if_pos (by decide)]
      exact mkA_row1 st hN' hE (by omega) v1 hg k a (b'.trans q) c
    · rw [q, if_neg (nI_pos (by omega)), nI_clamp (by omega), ← ext_cd hX v6 hy]
      exact mkA_row2 st hN' hE (by omega) (by omega) v1 hg k a (b'.trans q) c
end RMAKE
