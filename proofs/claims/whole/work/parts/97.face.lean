/-! The face of the reference: what its callers' calls come to. -/
/-- the state with this note of a throw -/
def thr (S : qS) (r : Nat) (x : Int32) : qS := (up3 S.1 r 0 0 x, S.2)
theorem thr_f {S : qS} {r j : Nat} {x : Int32} (h : j ≠ 0) : (thr S r x).1 r j = S.1 r j := by
  funext i
  exact up3_ne (fun q => h q.2)
theorem thr_0 {S : qS} {r : Nat} {x : Int32} : (thr S r x).1 r 0 0 = x := by
  show up3 S.1 r 0 0 x r 0 0 = x
  rw [up3_at, if_pos ⟨rfl, rfl⟩]
theorem thr_thr {S : qS} {r : Nat} {x y : Int32} : thr (thr S r x) r y = thr S r y := by
  unfold thr
  refine Prod.ext ?_ rfl
  funext o j i
  show up3 (up3 S.1 r 0 0 x) r 0 0 y o j i = up3 S.1 r 0 0 y o j i
  unfold up3
  by_cases h : o = r ∧ j = 0 ∧ i = 0
  · rw [if_pos h, if_pos h]
  · rw [if_neg h, if_neg h, if_neg h]
theorem thr_only {S : qS} {r : Nat} {x : Int32} : rOnly r S (thr S r x) := rOnly.up
/-- the face: N nodes, E elements -/
def Face (r : Nat) (S : qS) (E N : Nat) : Prop := S.1 r 1 0 = nI N ∧ S.1 r 9 0 = nI E ∧ N ≤ 300 ∧ E ≤ 16 ∧ Store (S.1 r 3) (S.1 r 4) (S.1 r 5) (S.1 r 6) E N
theorem Face.thr {r E N : Nat} {S : qS} {x : Int32} (h : Face r S E N) : Face r (thr S r x) E N := by
  unfold Face at h ⊢
  rw [thr_f (j := 1) (by decide), thr_f (j := 9) (by decide), thr_f (j := 3) (by decide), thr_f (j := 4) (by decide), thr_f (j := 5) (by decide), thr_f (j := 6) (by decide)]
  exact h
/-- is this node a word's? -/
def fW (S : qS) (r : Nat) (a : Int32) : Bool := wd (S.1 r 3) (S.1 r 5) a.toNatClampNeg
theorem fW_thr {S : qS} {r : Nat} {x a : Int32} : fW (thr S r x) r a = fW S r a := by
  unfold fW
  rw [thr_f (by decide), thr_f (by decide)]
theorem yC_id {α : Type} {x : Option (α × qS)} : yC x (fun v S => some (v, S)) = x := by
  cases x with
  | none => rfl
  | some q => rfl
section FACE
variable {O : qOb9} {r n E N : Nat} {S : qS}
theorem face_isNode (h : Ref O r) (hF : Face r S E N) {v : Int32} : G_XModel_isNode O n r v S = some (bN (inN v N), S) := ref_isNode h hF.1
theorem face_isWord (h : Ref O r) (hn : 7000 ≤ n) (hF : Face r S E N) {v : Int32} (hv : inN v N = true) : G_XModel_isWord O n r v S = some (bN (fW S r v), S) := by
  have h3 := hF.2.2.1
  obtain ⟨m, hm, rfl⟩ := (inN_iff (by omega)).mp hv
  unfold fW
  rw [nI_clamp (by omega)]
  exact ref_isWord h (by omega) hn hF.2.2.2.2.2.1 hm
theorem bN_if {α : Type} {b : Bool} {x y : α} : (if bN b = 0 then x else y) = cond b y x := by cases b <;> rfl
theorem face_fail (h : Ref O r) {x : Int32} : G_XModel_fail O n r x S = some (0, thr S r x) := ref_fail h
theorem face_equal (h : Ref O r) (hn : 7000 ≤ n) (hF : Face r S E N) {a b : Int32} : G_XModel_equal O n r a b S = cond (inN a N && inN b N) (cond (fW S r a && fW S r b) (G_XModel_told O n r 6 a b (-1) 3 (thr S r 0)) (some (0, thr S r 2))) (some (0, thr S r 1)) := by
  unfold G_XModel_equal G_XModel_equal_21 G_XModel_equal_43
  have h0 := Face.thr (x := 0) hF
  rw [rP h (by decide)]
  show hk 0 O r (yC (G_XModel_isNode O n r a (thr S r 0)) _) = _
  rw [rk h, face_isNode h h0, yC_some, bN_if]
  cases ha : inN a N with
  | false =>
    show hk 0 O r _ = some (0, thr S r 1)
    rw [rk h, face_fail h, yC_some, thr_thr]
  | true =>
    show hk 0 O r _ = _
    rw [rk h, face_isNode h h0, yC_some, bN_if]
    cases hb : inN b N with
    | false =>
      show hk 0 O r _ = some (0, thr S r 1)
      rw [rk h, face_fail h, yC_some, thr_thr]
    | true =>
      show hk 0 O r _ = cond (fW S r a && fW S r b) _ _
      rw [rk h, face_isWord h hn h0 ha, yC_some, bN_if, fW_thr]
      cases wa : fW S r a with
      | false =>
        show hk 0 O r _ = some (0, thr S r 2)
        rw [rk h, face_fail h, yC_some, thr_thr]
      | true =>
        show hk 0 O r _ = cond (fW S r b) _ _
        rw [rk h, face_isWord h hn h0 hb, yC_some, bN_if, fW_thr]
        cases wb : fW S r b with
        | false =>
          show hk 0 O r _ = some (0, thr S r 2)
          rw [rk h, face_fail h, yC_some, thr_thr]
        | true =>
          show hk 0 O r _ = G_XModel_told O n r 6 a b (-1) 3 (thr S r 0)
          rw [rk h, yC_id]
theorem face_both (h : Ref O r) (hn : 7000 ≤ n) (hF : Face r S E N) {a b : Int32} : G_XModel_both O n r a b S = cond (inN a N && inN b N) (cond (!fW S r a && !fW S r b) (G_XModel_told O n r 8 a b (-1) 3 (thr S r 0)) (some (0, thr S r 2))) (some (0, thr S r 1)) := by
  unfold G_XModel_both G_XModel_both_21 G_XModel_both_43
  have h0 := Face.thr (x := 0) hF
  rw [rP h (by decide)]
  show hk 0 O r (yC (G_XModel_isNode O n r a (thr S r 0)) _) = _
  rw [rk h, face_isNode h h0, yC_some, bN_if]
  cases ha : inN a N with
  | false =>
    show hk 0 O r _ = some (0, thr S r 1)
    rw [rk h, face_fail h, yC_some, thr_thr]
  | true =>
    show hk 0 O r _ = _
    rw [rk h, face_isNode h h0, yC_some, bN_if]
    cases hb : inN b N with
    | false =>
      show hk 0 O r _ = some (0, thr S r 1)
      rw [rk h, face_fail h, yC_some, thr_thr]
    | true =>
      show hk 0 O r _ = cond (!fW S r a && !fW S r b) _ _
      rw [rk h, face_isWord h hn h0 ha, yC_some, bN_if, fW_thr]
      cases wa : fW S r a with
      | true =>
        show hk 0 O r _ = some (0, thr S r 2)
        rw [rk h, face_fail h, yC_some, thr_thr]
      | false =>
        show hk 0 O r _ = cond (!fW S r b) _ _
        rw [rk h, face_isWord h hn h0 hb, yC_some, bN_if, fW_thr]
        cases wb : fW S r b with
        | true =>
          show hk 0 O r _ = some (0, thr S r 2)
          rw [rk h, face_fail h, yC_some, thr_thr]
        | false =>
          show hk 0 O r _ = G_XModel_told O n r 8 a b (-1) 3 (thr S r 0)
          rw [rk h, yC_id]
theorem face_not (h : Ref O r) (hn : 7000 ≤ n) (hF : Face r S E N) {a : Int32} : G_XModel_not O n r a S = cond (inN a N) (cond (!fW S r a) (G_XModel_told O n r 7 a (-1) (-1) 3 (thr S r 0)) (some (0, thr S r 2))) (some (0, thr S r 1)) := by
  unfold G_XModel_not
  have h0 := Face.thr (x := 0) hF
  rw [rP h (by decide)]
  show hk 0 O r (yC (G_XModel_isNode O n r a (thr S r 0)) _) = _
  rw [rk h, face_isNode h h0, yC_some, bN_if]
  cases ha : inN a N with
  | false =>
    show hk 0 O r _ = some (0, thr S r 1)
    rw [rk h, face_fail h, yC_some, thr_thr]
  | true =>
    show hk 0 O r _ = cond (!fW S r a) _ _
    rw [rk h, face_isWord h hn h0 ha, yC_some, bN_if, fW_thr]
    cases wa : fW S r a with
    | true =>
      show hk 0 O r _ = some (0, thr S r 2)
      rw [rk h, face_fail h, yC_some, thr_thr]
    | false =>
      show hk 0 O r _ = G_XModel_told O n r 7 a (-1) (-1) 3 (thr S r 0)
      rw [rk h, yC_id]
end FACE
