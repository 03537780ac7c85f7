/-! PLANES -/
/-- the number that a word's planes hold in state t -/
def b1 (b : Bool) : Nat := if b = true then 1 else 0
def wB (S : qS) (l m t : Nat) : Nat := b1 (bt (S.2 l 1 m) t) + 2 * b1 (bt (S.2 l 2 m) t) + 4 * b1 (bt (S.2 l 3 m) t)
def tB (S : qS) (l m t : Nat) : Nat := b1 (bt (S.2 l 1 m) t)
/-- node m's planes hold these values -/
def PRm (S : qS) (l m : Nat) (b : Bool) (v : Nat → Nat) : Prop := ∀ t, t < 64 → (if b = true then wB S l m t else tB S l m t) = v t
/-- nothing but node m's planes has changed -/
def plO (l m : Nat) (S S' : qS) : Prop := S'.1 = S.1 ∧ ∀ o j i, ¬ (o = l ∧ i = m) → S'.2 o j i = S.2 o j i
theorem plO.refl {l m : Nat} {S : qS} : plO l m S S := ⟨rfl, fun _ _ _ _ => rfl⟩
theorem plO.trans {l m : Nat} {S S1 S2 : qS} (h1 : plO l m S S1) (h2 : plO l m S1 S2) : plO l m S S2 := ⟨h2.1.trans h1.1, fun o j i h => (h2.2 o j i h).trans (h1.2 o j i h)⟩
theorem plO.up {l m j : Nat} {S : qS} {v : Int64} : plO l m S (S.1, up3 S.2 l j m v) := ⟨rfl, fun _ _ _ h => if_neg (fun q => h ⟨q.1, q.2.2⟩)⟩
theorem PRm_same {l m m' : Nat} {S S' : qS} {b : Bool} {v : Nat → Nat} (h : plO l m S S') (hm : m' ≠ m) (hp : PRm S l m' b v) : PRm S' l m' b v := by
  unfold PRm wB tB at hp ⊢
  rw [h.2 l 1 m' (fun q => hm q.2), h.2 l 2 m' (fun q => hm q.2), h.2 l 3 m' (fun q => hm q.2)]
  exact hp
theorem PRm_congr {l m : Nat} {S : qS} {b : Bool} {v v' : Nat → Nat} (hp : PRm S l m b v) (h : ∀ t, t < 64 → v t = v' t) : PRm S l m b v' := fun t ht => (hp t ht).trans (h t ht)
theorem up3_lv {S : qS} {o j i : Nat} {v : Int64} : up3 S.2 o j i v o j i = v := if_pos ⟨rfl, rfl, rfl⟩
theorem up3_lf {S : qS} {o j i j' i' : Nat} {v : Int64} (h : j' ≠ j) : up3 S.2 o j i v o j' i' = S.2 o j' i' := if_neg (fun q => h q.2.1)
theorem b1_inj {a b : Bool} (h : b1 a = b1 b) : a = b := by
  cases a <;> cases b <;> first | rfl | exact absurd h (by decide)
theorem b1_le (a : Bool) : b1 a ≤ 1 := by cases a <;> decide
theorem b1_one {a : Bool} : b1 a = 1 ↔ a = true := by cases a <;> decide
theorem wB_inj {a b c a' b' c' : Bool} (h : b1 a + 2 * b1 b + 4 * b1 c = b1 a' + 2 * b1 b' + 4 * b1 c') : a = a' ∧ b = b' ∧ c = c' := by
  have h1 := b1_le a
  have h2 := b1_le b
  have h3 := b1_le c
  have h4 := b1_le a'
  have h5 := b1_le b'
  have h6 := b1_le c'
  exact ⟨b1_inj (by omega), b1_inj (by omega), b1_inj (by omega)⟩
section PLANES
variable {O : qOb9} {x c u p f w q s l n : Nat} {S : qS}
/-- the planes' object -/
def PlO (O : qOb9) (l w : Nat) : Prop := oC O l = 6 ∧ oR O l 0 = w ∧ oN O l 1 = 5732 ∧ oN O l 2 = 5732 ∧ oN O l 3 = 5732 ∧ NdO O w 5732 2048 ∧ w ≠ l
theorem ClO_pl (hO : ClO O x c u p f w q s l) : PlO O l w := by
  have NE := ClO_ne hO
  obtain ⟨⟨h1, h2, h3, h4, h5, h6, h7⟩, ⟨o1, o2, o3, o4, o5, o6, o7, o8, o9, o10, o11⟩, ⟨n1, n2, n3⟩, _, _, _, _, ⟨a1, a2, a3⟩⟩ := hO
  exact ⟨h7, o11, a1, a2, a3, n2, NE.2.2.1.2.2.1⟩
theorem cls_truthOf (hP : PlO O l w) {m : Nat} (hm : m < 5732) : G_XPlanes_truthOf O n l (nI m) S = some (S.2 l 1 m, S) := by
  obtain ⟨h7, _, a1, _⟩ := hP
  unfold G_XPlanes_truthOf
  rw [uA (ci := 5) h7 (by decide), ulL (ci := 5) h7 (by decide) (by rw [a1]; exact hm) (by omega)]
theorem cls_setTruth (hP : PlO O l w) {m : Nat} (hm : m < 5732) {v : Int64} : G_XPlanes_setTruth O n l (nI m) v S = some ((), (S.1, up3 S.2 l 1 m v)) := by
  obtain ⟨h7, _, a1, _⟩ := hP
  unfold G_XPlanes_setTruth
  rw [uA (ci := 5) h7 (by decide), uwL (ci := 5) h7 (by decide) (by rw [a1]; exact hm) (by omega)]
theorem cls_setWord (hP : PlO O l w) {m k : Nat} (hm : m < 5732) (hk : k < 8) : ∃ S', G_XPlanes_setWord O n l (nI m) (nI k) S = some ((), S') ∧ plO l m S S' ∧ PRm S' l m true (fun _ => k) := by
  obtain ⟨h7, _, a1, a2, a3, _⟩ := hP
  unfold G_XPlanes_setWord
  rw [uA (ci := 5) h7 (by decide), uwL (ci := 5) h7 (by decide) (by rw [a1]; exact hm) (by omega), uA (ci := 5) h7 (by decide), uwL (ci := 5) h7 (by decide) (by rw [a2]; exact hm) (by omega), uA (ci := 5) h7 (by decide), uwL (ci := 5) h7 (by decide) (by rw [a3]; exact hm) (by omega), bt_w0 k hk, bt_w1 k hk, bt_w2 k hk]
  refine ⟨_, rfl, plO.up.trans (plO.up.trans plO.up), fun t ht => ?_⟩
  rw [if_pos rfl]
  unfold wB
  have e1 : ∀ b : Nat, b1 (bt (if b % 2 = 1 then (-1 : Int64) else 0) t) = b % 2 := fun b => by
    by_cases z : b % 2 = 1
    · rw [if_pos z, bt_m1 ht, z]; rfl
    · rw [if_neg z, bt_0, show b % 2 = 0 by omega]; rfl
  show b1 (bt (up3 (up3 (up3 S.2 l 1 m _) l 2 m _) l 3 m _ l 1 m) t) + 2 * b1 (bt (up3 (up3 (up3 S.2 l 1 m _) l 2 m _) l 3 m _ l 2 m) t) + 4 * b1 (bt (up3 (up3 (up3 S.2 l 1 m _) l 2 m _) l 3 m _ l 3 m) t) = k
  have x1 : ∀ (F : Nat → Nat → Nat → Int64) (v : Int64) (j : Nat), up3 F l j m v l j m = v := fun F v j => if_pos ⟨rfl, rfl, rfl⟩
  have x2 : ∀ (F : Nat → Nat → Nat → Int64) (v : Int64) (j j' : Nat), j' ≠ j → up3 F l j m v l j' m = F l j' m := fun F v j j' h => if_neg (fun q => h q.2.1)
  rw [x2 _ _ 3 1 (by decide), x2 _ _ 2 1 (by decide), x1, x2 _ _ 3 2 (by decide), x1, x1, e1, e1, e1]
  omega
theorem cls_same (hP : PlO O l w) {a b : Nat} (ha : a < 5732) (hb : b < 5732) {va vb : Nat → Nat} (pa : PRm S l a true va) (pb : PRm S l b true vb) : ∃ y, G_XPlanes_same O n l (nI a) (nI b) S = some (y, S) ∧ ∀ t, t < 64 → bt y t = decide (va t = vb t) := by
  obtain ⟨h7, _, a1, a2, a3, _⟩ := hP
  unfold G_XPlanes_same
  rw [uA (ci := 5) h7 (by decide), ulL (ci := 5) h7 (by decide) (by rw [a1]; exact ha) (by omega), uA (ci := 5) h7 (by decide), ulL (ci := 5) h7 (by decide) (by rw [a1]; exact hb) (by omega), uA (ci := 5) h7 (by decide), ulL (ci := 5) h7 (by decide) (by rw [a2]; exact ha) (by omega), uA (ci := 5) h7 (by decide), ulL (ci := 5) h7 (by decide) (by rw [a2]; exact hb) (by omega), uA (ci := 5) h7 (by decide), ulL (ci := 5) h7 (by decide) (by rw [a3]; exact ha) (by omega), uA (ci := 5) h7 (by decide), ulL (ci := 5) h7 (by decide) (by rw [a3]; exact hb) (by omega)]
  refine ⟨_, rfl, fun t ht => ?_⟩
  rw [bt_not _ ht, bt_or, bt_or, bt_xor, bt_xor, bt_xor]
  have q1 := pa t ht
  have q2 := pb t ht
  rw [if_pos rfl] at q1 q2
  rw [← q1, ← q2]
  unfold wB
  by_cases e : b1 (bt (S.2 l 1 a) t) + 2 * b1 (bt (S.2 l 2 a) t) + 4 * b1 (bt (S.2 l 3 a) t) = b1 (bt (S.2 l 1 b) t) + 2 * b1 (bt (S.2 l 2 b) t) + 4 * b1 (bt (S.2 l 3 b) t)
  · obtain ⟨e1, e2, e3⟩ := wB_inj e
    rw [decide_eq_true e, e1, e2, e3]
    cases bt (S.2 l 1 b) t <;> cases bt (S.2 l 2 b) t <;> cases bt (S.2 l 3 b) t <;> rfl
  · rw [decide_eq_false e]
    revert e
    cases bt (S.2 l 1 a) t <;> cases bt (S.2 l 2 a) t <;> cases bt (S.2 l 3 a) t <;> cases bt (S.2 l 1 b) t <;> cases bt (S.2 l 2 b) t <;> cases bt (S.2 l 3 b) t <;> first | (intro e; rfl) | (intro e; exact absurd rfl e)
theorem cls_choose (hP : PlO O l w) {m a b : Nat} (hm : m < 5732) (ha : a < 5732) (hb : b < 5732) (ham : a ≠ m) (hbm : b ≠ m) {st : Int64} {vc va vb : Nat → Nat} {wf : Bool} (hw4 : S.1 w 4 m = bN wf) (hc : ∀ t, t < 64 → b1 (bt st t) = vc t) (pa : PRm S l a wf va) (pb : PRm S l b wf vb) :
    ∃ S', G_XPlanes_choose O n l (nI m) st (nI a) (nI b) S = some ((), S') ∧ plO l m S S' ∧ PRm S' l m wf (fun t => if vc t = 1 then va t else vb t) := by
  obtain ⟨h7, o11, a1, a2, a3, n2, wl⟩ := hP
  unfold G_XPlanes_choose
  have m4 : m < oN O w 4 := by rw [n2.2.1 4 (by omega)]; exact hm
  rw [uA (ci := 5) h7 (by decide), uA (ci := 5) h7 (by decide), ulL (ci := 5) h7 (by decide) (by rw [a1]; exact ha) (by omega), uA (ci := 5) h7 (by decide), ulL (ci := 5) h7 (by decide) (by rw [a1]; exact hb) (by omega), uwL (ci := 5) h7 (by decide) (by rw [a1]; exact hm) (by omega), uO (ci := 5) h7 (by decide), o11, uA (ci := 3) n2.1 (by decide), ul (ci := 3) n2.1 (by decide) m4 (by omega)]
  show ∃ S', (if S.1 w 4 m = (0 : Int32) then _ else _) = some ((), S') ∧ _
  have mix : ∀ (X Y : Int64) (t : Nat), t < 64 → bt ((st &&& X) ||| ((st ^^^ (-1 : Int64)) &&& Y)) t = if bt st t = true then bt X t else bt Y t := fun X Y t ht => by
    rw [bt_or, bt_and, bt_and, bt_not _ ht]
    cases bt st t <;> cases bt X t <;> cases bt Y t <;> rfl
  have x1 : ∀ (F : Nat → Nat → Nat → Int64) (v : Int64) (j : Nat), up3 F l j m v l j m = v := fun F v j => if_pos ⟨rfl, rfl, rfl⟩
  have x2 : ∀ (F : Nat → Nat → Nat → Int64) (v : Int64) (j j' : Nat), j' ≠ j → up3 F l j m v l j' m = F l j' m := fun F v j j' h => if_neg (fun q => h q.2.1)
  have x3 : ∀ (F : Nat → Nat → Nat → Int64) (v : Int64) (j j' i : Nat), i ≠ m → up3 F l j m v l j' i = F l j' i := fun F v j j' i h => if_neg (fun q => h q.2.2)
  have cc : ∀ t, t < 64 → (bt st t = true ↔ vc t = 1) := fun t ht => by rw [← hc t ht]; exact b1_one.symm
  rw [hw4]
  cases wf with
  | false =>
    rw [if_pos (show bN false = (0 : Int32) from rfl)]
    refine ⟨_, rfl, plO.up, fun t ht => ?_⟩
    have q1 := pa t ht
    have q2 := pb t ht
    rw [if_neg (by decide)] at q1 q2 ⊢
    unfold tB at q1 q2 ⊢
    show b1 (bt (up3 S.2 l 1 m _ l 1 m) t) = if vc t = 1 then va t else vb t
    rw [x1, mix _ _ t ht]
    by_cases z : bt st t = true
    · rw [if_pos z, if_pos ((cc t ht).mp z)]; exact q1
    · rw [if_neg z, if_neg (fun y => z ((cc t ht).mpr y))]; exact q2
  | true =>
    rw [if_neg (show ¬ bN true = (0 : Int32) by decide), uA (ci := 5) h7 (by decide), uA (ci := 5) h7 (by decide), ulL (ci := 5) h7 (by decide) (by rw [a2]; exact ha) (by omega), uA (ci := 5) h7 (by decide), ulL (ci := 5) h7 (by decide) (by rw [a2]; exact hb) (by omega), uwL (ci := 5) h7 (by decide) (by rw [a2]; exact hm) (by omega), uA (ci := 5) h7 (by decide), uA (ci := 5) h7 (by decide), ulL (ci := 5) h7 (by decide) (by rw [a3]; exact ha) (by omega), uA (ci := 5) h7 (by decide), ulL (ci := 5) h7 (by decide) (by rw [a3]; exact hb) (by omega), uwL (ci := 5) h7 (by decide) (by rw [a3]; exact hm) (by omega)]
    refine ⟨_, rfl, plO.up.trans (plO.up.trans plO.up), fun t ht => ?_⟩
    have q1 := pa t ht
    have q2 := pb t ht
    rw [if_pos rfl] at q1 q2 ⊢
    unfold wB at q1 q2 ⊢
    show b1 (bt (up3 (up3 (up3 S.2 l 1 m _) l 2 m _) l 3 m _ l 1 m) t) + 2 * b1 (bt (up3 (up3 (up3 S.2 l 1 m _) l 2 m _) l 3 m _ l 2 m) t) + 4 * b1 (bt (up3 (up3 (up3 S.2 l 1 m _) l 2 m _) l 3 m _ l 3 m) t) = _
    rw [x2 _ _ 3 1 (by decide), x2 _ _ 2 1 (by decide), x1, x2 _ _ 3 2 (by decide), x1, x1, mix _ _ t ht, mix _ _ t ht, mix _ _ t ht]
    show b1 (if bt st t = true then bt (S.2 l 1 a) t else bt (S.2 l 1 b) t) + 2 * b1 (if bt st t = true then bt (up3 S.2 l 1 m _ l 2 a) t else bt (up3 S.2 l 1 m _ l 2 b) t) + 4 * b1 (if bt st t = true then bt (up3 (up3 S.2 l 1 m _) l 2 m _ l 3 a) t else bt (up3 (up3 S.2 l 1 m _) l 2 m _ l 3 b) t) = if vc t = 1 then va t else vb t
    rw [x3 _ _ _ _ _ ham, x3 _ _ _ _ _ hbm, x3 _ _ _ _ _ ham, x3 _ _ _ _ _ ham, x3 _ _ _ _ _ hbm, x3 _ _ _ _ _ hbm]
    by_cases z : bt st t = true
    · rw [if_pos z, if_pos z, if_pos z, if_pos ((cc t ht).mp z)]; exact q1
    · rw [if_neg z, if_neg z, if_neg z, if_neg (fun y => z ((cc t ht).mpr y))]; exact q2
end PLANES
