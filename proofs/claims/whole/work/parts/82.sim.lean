/-! THE PURE PART: objects by name. O: which cells are objects of which class (+ 1), where their object fields lead, where their arrays lie, how long these are. S: what fields and arrays hold, by object, field and place. -/
abbrev qOb9 : Type := (Nat → Nat) × (Nat → Nat → Nat) × (Nat → Nat → Nat) × (Nat → Nat → Nat)
abbrev qS : Type := (Nat → Nat → Nat → Int32) × (Nat → Nat → Nat → Int64)
def oC (O : qOb9) : Nat → Nat := O.1
def oR (O : qOb9) : Nat → Nat → Nat := O.2.1
def oA (O : qOb9) : Nat → Nat → Nat := O.2.2.1
def oN (O : qOb9) : Nat → Nat → Nat := O.2.2.2
def qKt : FieldType → Nat
  | .int => 4
  | .boolean => 4
  | .array .int => 0
  | .array .boolean => 1
  | .array .long => 2
  | .object _ => 3
  | _ => 5
def qKd (ci j : Nat) : Nat := if j < qNf ci then qKt (qTy ci j) else 5
def up3 {α : Type} (f : Nat → Nat → Nat → α) (o j i : Nat) (v : α) : Nat → Nat → Nat → α := fun o' j' i' => if o' = o ∧ j' = j ∧ i' = i then v else f o' j' i'
theorem up3_same {α : Type} (f : Nat → Nat → Nat → α) (o j i : Nat) (v : α) (i' : Nat) : up3 f o j i v o j i' = if i' = i then v else f o j i' := by simp [up3]
theorem up3_ne {α : Type} {f : Nat → Nat → Nat → α} {o j i : Nat} {v : α} {o' j' i' : Nat} (h : ¬ (o' = o ∧ j' = j)) : up3 f o j i v o' j' i' = f o' j' i' := by
  unfold up3
  rw [if_neg]
  exact fun q => h ⟨q.1, q.2.1⟩
def upA {α : Type} (f : Nat → Nat → Nat → α) (o j : Nat) (g : Nat → α) : Nat → Nat → Nat → α := fun o' j' i' => if o' = o ∧ j' = j then g i' else f o' j' i'
theorem upA_same {α : Type} (f : Nat → Nat → Nat → α) (o j : Nat) (g : Nat → α) (i' : Nat) : upA f o j g o j i' = g i' := by simp [upA]
theorem upA_ne {α : Type} {f : Nat → Nat → Nat → α} {o j : Nat} {g : Nat → α} {o' j' i' : Nat} (h : ¬ (o' = o ∧ j' = j)) : upA f o j g o' j' i' = f o' j' i' := by
  unfold upA
  rw [if_neg h]
/-- the memory holds what S says -/
def Rp (O : qOb9) (M : PM) (S : qS) : Prop := ∀ o ci, oC O o = ci + 1 → mK M o = ci + 3 ∧ ∀ j,
  (qKd ci j = 4 → mF M o j = .int (S.1 o j 0)) ∧ (qKd ci j = 3 → mF M o j = .ref (oR O o j)) ∧
  (qKd ci j < 3 → mF M o j = .ref (oA O o j) ∧ mK M (oA O o j) = qKd ci j ∧ mN M (oA O o j) = oN O o j ∧ (∀ i, mI M (oA O o j) i = S.1 o j i) ∧ ∀ i, mL M (oA O o j) i = S.2 o j i)
/-- no array has two names -/
def okO (O : qOb9) : Prop := ∀ o ci j o' ci' j', oC O o = ci + 1 → oC O o' = ci' + 1 → qKd ci j < 3 → qKd ci' j' < 3 → oA O o j = oA O o' j' → o = o' ∧ j = j'
/-- nothing else has changed -/
def Fm (O : qOb9) (M0 M : PM) : Prop := mS M = mS M0 ∧ mK M = mK M0 ∧ mN M = mN M0 ∧ mC M = mC M0 ∧ mT M = mT M0 ∧
  (∀ a, (∀ o ci j, oC O o = ci + 1 → qKd ci j < 3 → a ≠ oA O o j) → mI M a = mI M0 a ∧ mL M a = mL M0 a) ∧ ∀ a, oC O a = 0 → mF M a = mF M0 a
theorem Fm.refl {O : qOb9} {M : PM} : Fm O M M := ⟨rfl, rfl, rfl, rfl, rfl, fun _ _ => ⟨rfl, rfl⟩, fun _ _ => rfl⟩
def qX0 : Bool → PM → PM
  | true, M => nX M
  | false, M => M
/-- e: how an end is told (true: it threw) -/
def Sim {α : Type} (e : α → qRs × Bool) (O : qOb9) (M0 : PM) (x : qO) (y : Option (α × qS)) : Prop := ∀ r S', y = some (r, S') → ∃ M', x = some ((e r).1, M') ∧ Rp O M' S' ∧ Fm O (qX0 (e r).2 M0) M'
def eI (v : Int32) : qRs × Bool := (.inl (some (.int v)), false)
def eL (v : Int64) : qRs × Bool := (.inl (some (.long v)), false)
def eV (_ : Unit) : qRs × Bool := (.inl none, false)
def eX {α : Type} (e : α → qRs × Bool) : α ⊕ String → qRs × Bool
  | .inl v => e v
  | .inr E => (.inr E, true)
def tC {α β : Type} (x : Option ((α ⊕ String) × qS)) (k : α → qS → Option ((β ⊕ String) × qS)) : Option ((β ⊕ String) × qS) := match x with
  | some (.inl v, S) => k v S
  | some (.inr E, S) => some (.inr E, S)
  | none => none
def tW {β : Type} (x : Option ((Unit ⊕ String) × qS)) (k : qS → Option ((β ⊕ String) × qS)) : Option ((β ⊕ String) × qS) := match x with
  | some (.inl _, S) => k S
  | some (.inr E, S) => some (.inr E, S)
  | none => none
abbrev okA (O : qOb9) (p : Nat × Nat) (d : Nat) : Prop := oC O p.1 ≠ 0 ∧ qKd (oC O p.1 - 1) p.2 = d
def hI {β : Type} (ci : Nat) (O : qOb9) (S : qS) (o j : Nat) (k : Int32 → Option β) : Option β := if oC O o = ci + 1 ∧ qKd ci j = 4 then k (S.1 o j 0) else none
def hO {β : Type} (ci : Nat) (O : qOb9) (o j : Nat) (k : Nat → Option β) : Option β := if oC O o = ci + 1 ∧ qKd ci j = 3 then k (oR O o j) else none
def hA {β : Type} (ci : Nat) (O : qOb9) (o j : Nat) (k : Nat × Nat → Option β) : Option β := if oC O o = ci + 1 ∧ qKd ci j < 3 then k (o, j) else none
def hk {β : Type} (ci : Nat) (O : qOb9) (o : Nat) (x : Option β) : Option β := if oC O o = ci + 1 then x else none
def hl {β : Type} (d : Nat) (O : qOb9) (S : qS) (p : Nat × Nat) (i : Int32) (k : Int32 → Option β) : Option β := if okA O p d ∧ ¬ i < 0 ∧ i.toNatClampNeg < oN O p.1 p.2 then k (S.1 p.1 p.2 i.toNatClampNeg) else none
def hlL {β : Type} (O : qOb9) (S : qS) (p : Nat × Nat) (i : Int32) (k : Int64 → Option β) : Option β := if okA O p 2 ∧ ¬ i < 0 ∧ i.toNatClampNeg < oN O p.1 p.2 then k (S.2 p.1 p.2 i.toNatClampNeg) else none
def hw {β : Type} (d : Nat) (O : qOb9) (S : qS) (p : Nat × Nat) (i : Int32) (v : Int32) (k : qS → Option β) : Option β := if okA O p d ∧ ¬ i < 0 ∧ i.toNatClampNeg < oN O p.1 p.2 then k (up3 S.1 p.1 p.2 i.toNatClampNeg v, S.2) else none
def hwL {β : Type} (O : qOb9) (S : qS) (p : Nat × Nat) (i : Int32) (v : Int64) (k : qS → Option β) : Option β := if okA O p 2 ∧ ¬ i < 0 ∧ i.toNatClampNeg < oN O p.1 p.2 then k (S.1, up3 S.2 p.1 p.2 i.toNatClampNeg v) else none
def hP {β : Type} (ci : Nat) (O : qOb9) (S : qS) (o j : Nat) (v : Int32) (k : qS → Option β) : Option β := if oC O o = ci + 1 ∧ qKd ci j = 4 then k (up3 S.1 o j 0 v, S.2) else none
def hn {β : Type} (O : qOb9) (p : Nat × Nat) (k : Int32 → Option β) : Option β := if oC O p.1 ≠ 0 ∧ qKd (oC O p.1 - 1) p.2 < 3 then k (nI (oN O p.1 p.2)) else none
def yC {α β : Type} (x : Option (α × qS)) (k : α → qS → Option β) : Option β := match x with
  | some (v, S) => k v S
  | none => none
def yV {β : Type} (x : Option (Unit × qS)) (k : qS → Option β) : Option β := match x with
  | some (_, S) => k S
  | none => none
def hB {γ β : Type} (v : γ) (k : γ → Option β) : Option β := k v
def hM {β : Type} (x y : Int32) (k : Int32 → Option β) : Option β := if y = 0 then none else k (x - x / y * y)
def hT {β : Type} (i : Int32) (k : Int64 → Option β) : Option β := if ¬ i < 0 ∧ i.toNatClampNeg < 6 then k (qCol i.toNatClampNeg) else none
def hcp {β : Type} (O : qOb9) (S : qS) (p : Nat × Nat) (sp : Int32) (q : Nat × Nat) (dp m : Int32) (k : qS → Option β) : Option β :=
  if okA O p 0 ∧ okA O q 0 ∧ ¬ sp < 0 ∧ ¬ dp < 0 ∧ ¬ m < 0 ∧ sp.toNatClampNeg + m.toNatClampNeg ≤ oN O p.1 p.2 ∧ dp.toNatClampNeg + m.toNatClampNeg ≤ oN O q.1 q.2 then k (upA S.1 q.1 q.2 (va_cpy (S.1 p.1 p.2) (S.1 q.1 q.2) sp.toNatClampNeg dp.toNatClampNeg m.toNatClampNeg), S.2) else none
def hz (v : Int32) (S : qS) : Option (Int32 × qS) := if v = 0 ∨ v = 1 then some (v, S) else none
def hzx (v : Int32) (S : qS) : Option ((Int32 ⊕ String) × qS) := if v = 0 ∨ v = 1 then some (.inl v, S) else none
theorem okA_at {O : qOb9} {p : Nat × Nat} {d : Nat} (h : okA O p d) : ∃ ci, oC O p.1 = ci + 1 ∧ qKd ci p.2 = d := by
  obtain ⟨h1, h2⟩ := h
  exact ⟨oC O p.1 - 1, by omega, h2⟩
theorem Rp_w {O : qOb9} {M M' : PM} {S S' : qS} {p : Nat × Nat} (hO : okO O) (R : Rp O M S) {ci0 : Nat} (h0 : oC O p.1 = ci0 + 1) (hd : qKd ci0 p.2 < 3) (hK : mK M' = mK M) (hN : mN M' = mN M) (hF : mF M' = mF M)
    (h1 : ∀ i, mI M' (oA O p.1 p.2) i = S'.1 p.1 p.2 i) (h2 : ∀ i, mL M' (oA O p.1 p.2) i = S'.2 p.1 p.2 i) (h3 : ∀ a, a ≠ oA O p.1 p.2 → mI M' a = mI M a ∧ mL M' a = mL M a) (h4 : ∀ o j i, ¬ (o = p.1 ∧ j = p.2) → S'.1 o j i = S.1 o j i ∧ S'.2 o j i = S.2 o j i) : Rp O M' S' := by
  intro o ci hc
  obtain ⟨r1, r2⟩ := R o ci hc
  refine ⟨by rw [hK]; exact r1, fun j => ⟨fun q => ?_, fun q => by rw [hF]; exact (r2 j).2.1 q, fun q => ?_⟩⟩
  · have hne : ¬ (o = p.1 ∧ j = p.2) := by
      rintro ⟨e1, e2⟩
      subst e1; subst e2
      rw [h0] at hc
      have : ci0 = ci := by omega
      subst this
      omega
    rw [hF, (r2 j).1 q, (h4 o j 0 hne).1]
  · obtain ⟨a1, a2, a3, a4, a5⟩ := (r2 j).2.2 q
    refine ⟨by rw [hF]; exact a1, by rw [hK]; exact a2, by rw [hN]; exact a3, fun i => ?_, fun i => ?_⟩
    · by_cases e : o = p.1 ∧ j = p.2
      · obtain ⟨e1, e2⟩ := e
        subst e1; subst e2
        exact h1 i
      · have hne : oA O o j ≠ oA O p.1 p.2 := fun z => e (hO o ci j p.1 ci0 p.2 hc h0 q hd z)
        rw [(h3 _ hne).1, a4 i, (h4 o j i e).1]
    · by_cases e : o = p.1 ∧ j = p.2
      · obtain ⟨e1, e2⟩ := e
        subst e1; subst e2
        exact h2 i
      · have hne : oA O o j ≠ oA O p.1 p.2 := fun z => e (hO o ci j p.1 ci0 p.2 hc h0 q hd z)
        rw [(h3 _ hne).2, a5 i, (h4 o j i e).2]
theorem Fm_w {O : qOb9} {M0 M M' : PM} {p : Nat × Nat} (H : Fm O M0 M) {ci0 : Nat} (h0 : oC O p.1 = ci0 + 1) (hd : qKd ci0 p.2 < 3) (hS : mS M' = mS M) (hC : mC M' = mC M) (hT : mT M' = mT M) (hK : mK M' = mK M) (hN : mN M' = mN M) (hF : mF M' = mF M)
    (h3 : ∀ a, a ≠ oA O p.1 p.2 → mI M' a = mI M a ∧ mL M' a = mL M a) : Fm O M0 M' := by
  obtain ⟨f1, f2, f3, f4, f5, f6, f7⟩ := H
  refine ⟨hS.trans f1, hK.trans f2, hN.trans f3, hC.trans f4, hT.trans f5, fun a ha => ?_, fun a ha => by rw [hF]; exact f7 a ha⟩
  obtain ⟨g1, g2⟩ := f6 a ha
  obtain ⟨k1, k2⟩ := h3 a (ha p.1 ci0 p.2 h0 hd)
  exact ⟨k1.trans g1, k2.trans g2⟩
theorem up2_nf {α : Type} {f : Nat → Nat → α} {a j : Nat} {v : α} {a' : Nat} (h : a' ≠ a) : up2 f a j v a' = f a' := by
  funext j'
  unfold up2
  rw [if_neg]
  exact fun q => h q.1
theorem up2_sm {α : Type} (f : Nat → Nat → α) (a j : Nat) (v : α) (j' : Nat) : up2 f a j v a j' = if j' = j then v else f a j' := by simp [up2]
section SIM
variable {α β : Type} {e : α → qRs × Bool} {O : qOb9} {M0 M : PM} {S : qS}
theorem sim_gI {ci o j : Nat} {k : Int32 → qO} {k' : Int32 → Option (α × qS)} (R : Rp O M S) (h : ∀ v, Sim e O M0 (k v) (k' v)) : Sim e O M0 (gI ci M o j k) (hI ci O S o j k') := by
  intro r S' hy
  unfold hI at hy
  split at hy
  · rename_i hc
    obtain ⟨r1, r2⟩ := R o ci hc.1
    have e1 : gI ci M o j k = k (S.1 o j 0) := by unfold gI; rw [if_pos r1, (r2 j).1 hc.2]
    rw [e1]
    exact h _ r S' hy
  · cases hy
theorem sim_gO {ci o j : Nat} {k : Nat → qO} {k' : Nat → Option (α × qS)} (R : Rp O M S) (h : ∀ v, Sim e O M0 (k v) (k' v)) : Sim e O M0 (gR ci M o j k) (hO ci O o j k') := by
  intro r S' hy
  unfold hO at hy
  split at hy
  · rename_i hc
    obtain ⟨r1, r2⟩ := R o ci hc.1
    have e1 : gR ci M o j k = k (oR O o j) := by unfold gR; rw [if_pos r1, (r2 j).2.1 hc.2]
    rw [e1]
    exact h _ r S' hy
  · cases hy
theorem sim_gA {ci o j : Nat} {k : Nat → qO} {k' : Nat × Nat → Option (α × qS)} (R : Rp O M S) (h : ∀ p : Nat × Nat, Sim e O M0 (k (oA O p.1 p.2)) (k' p)) : Sim e O M0 (gR ci M o j k) (hA ci O o j k') := by
  intro r S' hy
  unfold hA at hy
  split at hy
  · rename_i hc
    obtain ⟨r1, r2⟩ := R o ci hc.1
    have e1 : gR ci M o j k = k (oA O o j) := by unfold gR; rw [if_pos r1, ((r2 j).2.2 hc.2).1]
    rw [e1]
    exact h (o, j) r S' hy
  · cases hy
theorem sim_kO {ci o : Nat} {x : qO} {y : Option (α × qS)} (R : Rp O M S) (h : Sim e O M0 x y) : Sim e O M0 (kO ci M o x) (hk ci O o y) := by
  intro r S' hy
  unfold hk at hy
  split at hy
  · rename_i hc
    have e1 : kO ci M o x = x := by unfold kO; rw [if_pos (R o ci hc).1]
    rw [e1]
    exact h r S' hy
  · cases hy
theorem sim_lI {p : Nat × Nat} {i : Int32} {k : Int32 → qO} {k' : Int32 → Option (α × qS)} (R : Rp O M S) (h : ∀ v, Sim e O M0 (k v) (k' v)) : Sim e O M0 (lI M (oA O p.1 p.2) i k) (hl 0 O S p i k') := by
  intro r S' hy
  unfold hl at hy
  split at hy
  · rename_i hc
    obtain ⟨ci, c1, c2⟩ := okA_at hc.1
    obtain ⟨-, a2, a3, a4, -⟩ := ((R p.1 ci c1).2 p.2).2.2 (by omega)
    have e1 : lI M (oA O p.1 p.2) i k = k (S.1 p.1 p.2 i.toNatClampNeg) := by unfold lI; rw [if_pos ⟨a2.trans c2, hc.2.1, by rw [a3]; exact hc.2.2⟩, a4]
    rw [e1]
    exact h _ r S' hy
  · cases hy
theorem sim_lZ {p : Nat × Nat} {i : Int32} {k : Int32 → qO} {k' : Int32 → Option (α × qS)} (R : Rp O M S) (h : ∀ v, Sim e O M0 (k v) (k' v)) : Sim e O M0 (lZ M (oA O p.1 p.2) i k) (hl 1 O S p i k') := by
  intro r S' hy
  unfold hl at hy
  split at hy
  · rename_i hc
    obtain ⟨ci, c1, c2⟩ := okA_at hc.1
    obtain ⟨-, a2, a3, a4, -⟩ := ((R p.1 ci c1).2 p.2).2.2 (by omega)
    have e1 : lZ M (oA O p.1 p.2) i k = k (S.1 p.1 p.2 i.toNatClampNeg) := by unfold lZ; rw [if_pos ⟨a2.trans c2, hc.2.1, by rw [a3]; exact hc.2.2⟩, a4]
    rw [e1]
    exact h _ r S' hy
  · cases hy
theorem sim_lL {p : Nat × Nat} {i : Int32} {k : Int64 → qO} {k' : Int64 → Option (α × qS)} (R : Rp O M S) (h : ∀ v, Sim e O M0 (k v) (k' v)) : Sim e O M0 (lL M (oA O p.1 p.2) i k) (hlL O S p i k') := by
  intro r S' hy
  unfold hlL at hy
  split at hy
  · rename_i hc
    obtain ⟨ci, c1, c2⟩ := okA_at hc.1
    obtain ⟨-, a2, a3, -, a5⟩ := ((R p.1 ci c1).2 p.2).2.2 (by omega)
    have e1 : lL M (oA O p.1 p.2) i k = k (S.2 p.1 p.2 i.toNatClampNeg) := by unfold lL; rw [if_pos ⟨a2.trans c2, hc.2.1, by rw [a3]; exact hc.2.2⟩, a5]
    rw [e1]
    exact h _ r S' hy
  · cases hy
theorem sim_sI {p : Nat × Nat} {ci i : Nat} {v : Int32} (hO : okO O) (R : Rp O M S) (H : Fm O M0 M) (c1 : oC O p.1 = ci + 1) (c2 : qKd ci p.2 < 3) : Rp O (sI M (oA O p.1 p.2) i v) (up3 S.1 p.1 p.2 i v, S.2) ∧ Fm O M0 (sI M (oA O p.1 p.2) i v) := by
  have a := ((R p.1 ci c1).2 p.2).2.2 c2
  refine ⟨Rp_w hO R c1 c2 rfl rfl rfl (fun i' => ?_) a.2.2.2.2 (fun a' ha => ⟨up2_nf ha, rfl⟩) (fun o j i' hne => ⟨up3_ne hne, rfl⟩), Fm_w H c1 c2 rfl rfl rfl rfl rfl rfl (fun a' ha => ⟨up2_nf ha, rfl⟩)⟩
  show up2 (mI M) _ i v _ i' = up3 S.1 p.1 p.2 i v p.1 p.2 i'
  rw [up2_sm, up3_same, a.2.2.2.1]
theorem sim_sL {p : Nat × Nat} {ci i : Nat} {v : Int64} (hO : okO O) (R : Rp O M S) (H : Fm O M0 M) (c1 : oC O p.1 = ci + 1) (c2 : qKd ci p.2 < 3) : Rp O (sL M (oA O p.1 p.2) i v) (S.1, up3 S.2 p.1 p.2 i v) ∧ Fm O M0 (sL M (oA O p.1 p.2) i v) := by
  have a := ((R p.1 ci c1).2 p.2).2.2 c2
  refine ⟨Rp_w hO R c1 c2 rfl rfl rfl a.2.2.2.1 (fun i' => ?_) (fun a' ha => ⟨rfl, up2_nf ha⟩) (fun o j i' hne => ⟨rfl, up3_ne hne⟩), Fm_w H c1 c2 rfl rfl rfl rfl rfl rfl (fun a' ha => ⟨rfl, up2_nf ha⟩)⟩
  show up2 (mL M) _ i v _ i' = up3 S.2 p.1 p.2 i v p.1 p.2 i'
  rw [up2_sm, up3_same, a.2.2.2.2]
theorem sim_wI {p : Nat × Nat} {i v : Int32} {k : PM → qO} {k' : qS → Option (α × qS)} (hO : okO O) (R : Rp O M S) (H : Fm O M0 M) (h : ∀ (M' : PM) (S' : qS), Rp O M' S' → Fm O M0 M' → Sim e O M0 (k M') (k' S')) : Sim e O M0 (wI M (oA O p.1 p.2) i v k) (hw 0 O S p i v k') := by
  intro r S' hy
  unfold hw at hy
  split at hy
  · rename_i hc
    obtain ⟨ci, c1, c2⟩ := okA_at hc.1
    have c3 : qKd ci p.2 < 3 := by omega
    obtain ⟨-, a2, a3, a4, -⟩ := ((R p.1 ci c1).2 p.2).2.2 c3
    have e1 : wI M (oA O p.1 p.2) i v k = k (sI M (oA O p.1 p.2) i.toNatClampNeg v) := by unfold wI; rw [if_pos ⟨a2.trans c2, hc.2.1, by rw [a3]; exact hc.2.2⟩]
    obtain ⟨R', H'⟩ := sim_sI (i := i.toNatClampNeg) (v := v) hO R H c1 c3
    rw [e1]
    exact h _ _ R' H' r S' hy
  · cases hy
theorem sim_wZ {p : Nat × Nat} {i v : Int32} {k : PM → qO} {k' : qS → Option (α × qS)} (hO : okO O) (R : Rp O M S) (H : Fm O M0 M) (h : ∀ (M' : PM) (S' : qS), Rp O M' S' → Fm O M0 M' → Sim e O M0 (k M') (k' S')) : Sim e O M0 (wZ M (oA O p.1 p.2) i v k) (hw 1 O S p i (vp_nar .boolean v) k') := by
  intro r S' hy
  unfold hw at hy
  split at hy
  · rename_i hc
    obtain ⟨ci, c1, c2⟩ := okA_at hc.1
    have c3 : qKd ci p.2 < 3 := by omega
    obtain ⟨-, a2, a3, a4, -⟩ := ((R p.1 ci c1).2 p.2).2.2 c3
    have e1 : wZ M (oA O p.1 p.2) i v k = k (sI M (oA O p.1 p.2) i.toNatClampNeg (vp_nar .boolean v)) := by unfold wZ; rw [if_pos ⟨a2.trans c2, hc.2.1, by rw [a3]; exact hc.2.2⟩]
    obtain ⟨R', H'⟩ := sim_sI (i := i.toNatClampNeg) (v := vp_nar .boolean v) hO R H c1 c3
    rw [e1]
    exact h _ _ R' H' r S' hy
  · cases hy
theorem sim_wL {p : Nat × Nat} {i : Int32} {v : Int64} {k : PM → qO} {k' : qS → Option (α × qS)} (hO : okO O) (R : Rp O M S) (H : Fm O M0 M) (h : ∀ (M' : PM) (S' : qS), Rp O M' S' → Fm O M0 M' → Sim e O M0 (k M') (k' S')) : Sim e O M0 (wL M (oA O p.1 p.2) i v k) (hwL O S p i v k') := by
  intro r S' hy
  unfold hwL at hy
  split at hy
  · rename_i hc
    obtain ⟨ci, c1, c2⟩ := okA_at hc.1
    have c3 : qKd ci p.2 < 3 := by omega
    obtain ⟨-, a2, a3, a4, -⟩ := ((R p.1 ci c1).2 p.2).2.2 c3
    have e1 : wL M (oA O p.1 p.2) i v k = k (sL M (oA O p.1 p.2) i.toNatClampNeg v) := by unfold wL; rw [if_pos ⟨a2.trans c2, hc.2.1, by rw [a3]; exact hc.2.2⟩]
    obtain ⟨R', H'⟩ := sim_sL (i := i.toNatClampNeg) (v := v) hO R H c1 c3
    rw [e1]
    exact h _ _ R' H' r S' hy
  · cases hy
theorem sim_pF {ci o j : Nat} {v : Int32} {k : PM → qO} {k' : qS → Option (α × qS)} (R : Rp O M S) (H : Fm O M0 M) (h : ∀ (M' : PM) (S' : qS), Rp O M' S' → Fm O M0 M' → Sim e O M0 (k M') (k' S')) : Sim e O M0 (pF ci M o j (.int v) k) (hP ci O S o j v k') := by
  intro r S' hy
  unfold hP at hy
  split at hy
  · rename_i hc
    have e1 : pF ci M o j (.int v) k = k (sF M o j (.int v)) := by unfold pF; rw [if_pos (R o ci hc.1).1]
    rw [e1]
    refine h _ _ ?_ ?_ r S' hy
    · intro o' ci' hc'
      obtain ⟨r1, r2⟩ := R o' ci' hc'
      refine ⟨r1, fun j' => ?_⟩
      have hst : mF (sF M o j (.int v)) o' j' = if o' = o ∧ j' = j then .int v else mF M o' j' := rfl
      by_cases e0 : o' = o ∧ j' = j
      · obtain ⟨e1, e2⟩ := e0
        subst e1; subst e2
        have hci : ci' = ci := by have := hc.1; omega
        subst hci
        rw [hst, if_pos ⟨rfl, rfl⟩]
        have h4 := hc.2
        refine ⟨fun _ => ?_, fun q => by omega, fun q => by omega⟩
        show Value.int v = .int (up3 S.1 o' j' 0 v o' j' 0)
        rw [up3_same, if_pos rfl]
      · rw [hst, if_neg e0]
        refine ⟨fun q => ?_, (r2 j').2.1, fun q => ?_⟩
        · show mF M o' j' = .int (up3 S.1 o j 0 v o' j' 0)
          rw [up3_ne e0]
          exact (r2 j').1 q
        · obtain ⟨a1, a2, a3, a4, a5⟩ := (r2 j').2.2 q
          refine ⟨a1, a2, a3, fun i => ?_, a5⟩
          show mI M _ i = up3 S.1 o j 0 v o' j' i
          rw [up3_ne e0]
          exact a4 i
    · obtain ⟨f1, f2, f3, f4, f5, f6, f7⟩ := H
      refine ⟨f1, f2, f3, f4, f5, f6, fun a ha => ?_⟩
      have hne : a ≠ o := fun z => by rw [z, hc.1] at ha; cases ha
      show up2 (mF M) o j (.int v) a = mF M0 a
      rw [up2_nf hne]
      exact f7 a ha
  · cases hy
theorem sim_aL {p : Nat × Nat} {k : Int32 → qO} {k' : Int32 → Option (α × qS)} (R : Rp O M S) (h : ∀ v, Sim e O M0 (k v) (k' v)) : Sim e O M0 (aL M (oA O p.1 p.2) k) (hn O p k') := by
  intro r S' hy
  unfold hn at hy
  split at hy
  · rename_i hc
    obtain ⟨-, a2, a3, -, -⟩ := ((R p.1 (oC O p.1 - 1) (by have := hc.1; omega)).2 p.2).2.2 hc.2
    have e1 : aL M (oA O p.1 p.2) k = k (nI (oN O p.1 p.2)) := by unfold aL; rw [if_pos (by rw [a2]; exact hc.2), a3]
    rw [e1]
    exact h _ r S' hy
  · cases hy
theorem sim_if {c : Prop} [Decidable c] {x1 x2 : qO} {y1 y2 : Option (α × qS)} (h1 : c → Sim e O M0 x1 y1) (h2 : ¬ c → Sim e O M0 x2 y2) : Sim e O M0 (if c then x1 else x2) (if c then y1 else y2) := by
  by_cases hc : c
  · rw [if_pos hc, if_pos hc]; exact h1 hc
  · rw [if_neg hc, if_neg hc]; exact h2 hc
theorem sim_cI {x : qO} {y : Option (Int32 × qS)} {k : Int32 → PM → qO} {k' : Int32 → qS → Option (α × qS)} (hx : Sim eI O M0 x y) (h : ∀ v (M' : PM) (S' : qS), Rp O M' S' → Fm O M0 M' → Sim e O M0 (k v M') (k' v S')) : Sim e O M0 (cI x k) (yC y k') := by
  intro r S' hy
  cases y with
  | none => cases hy
  | some q =>
    obtain ⟨M', e1, R', H'⟩ := hx q.1 q.2 rfl
    subst e1
    exact h _ _ _ R' H' r S' hy
theorem sim_cL {x : qO} {y : Option (Int64 × qS)} {k : Int64 → PM → qO} {k' : Int64 → qS → Option (α × qS)} (hx : Sim eL O M0 x y) (h : ∀ v (M' : PM) (S' : qS), Rp O M' S' → Fm O M0 M' → Sim e O M0 (k v M') (k' v S')) : Sim e O M0 (cL x k) (yC y k') := by
  intro r S' hy
  cases y with
  | none => cases hy
  | some q =>
    obtain ⟨M', e1, R', H'⟩ := hx q.1 q.2 rfl
    subst e1
    exact h _ _ _ R' H' r S' hy
theorem sim_cV {x : qO} {y : Option (Unit × qS)} {k : PM → qO} {k' : qS → Option (α × qS)} (hx : Sim eV O M0 x y) (h : ∀ (M' : PM) (S' : qS), Rp O M' S' → Fm O M0 M' → Sim e O M0 (k M') (k' S')) : Sim e O M0 (cV x k) (yV y k') := by
  intro r S' hy
  cases y with
  | none => cases hy
  | some q =>
    obtain ⟨M', e1, R', H'⟩ := hx q.1 q.2 rfl
    subst e1
    exact h _ _ R' H' r S' hy
theorem sim_bI {v : Int32} {k : Int32 → qO} {k' : Int32 → Option (α × qS)} (h : ∀ v, Sim e O M0 (k v) (k' v)) : Sim e O M0 (bI v k) (hB v k') := h v
theorem sim_bL {v : Int64} {k : Int64 → qO} {k' : Int64 → Option (α × qS)} (h : ∀ v, Sim e O M0 (k v) (k' v)) : Sim e O M0 (bL v k) (hB v k') := h v
theorem sim_iR {x y : Int32} {k : Int32 → qO} {k' : Int32 → Option (α × qS)} (h : ∀ v, Sim e O M0 (k v) (k' v)) : Sim e O M0 (iR x y k) (hM x y k') := by
  intro r S' hy
  unfold hM at hy
  unfold iR
  by_cases hc : y = 0
  · rw [if_pos hc] at hy; cases hy
  · rw [if_neg hc] at hy ⊢
    exact h _ r S' hy
theorem sim_tb {i : Int32} {k : Int64 → qO} {k' : Int64 → Option (α × qS)} (h : ∀ v, Sim e O M0 (k v) (k' v)) : Sim e O M0 (tb i k) (hT i k') := by
  intro r S' hy
  unfold hT at hy
  unfold tb
  by_cases hc : ¬ i < 0 ∧ i.toNatClampNeg < 6
  · rw [if_pos hc] at hy ⊢
    exact h _ r S' hy
  · rw [if_neg hc] at hy; cases hy
theorem sim_retI {v : Int32} (R : Rp O M S) (H : Fm O M0 M) : Sim eI O M0 (some (.inl (some (.int v)), M)) (some (v, S)) := by
  intro r S' hy
  cases hy
  exact ⟨M, rfl, R, H⟩
theorem sim_retL {v : Int64} (R : Rp O M S) (H : Fm O M0 M) : Sim eL O M0 (some (.inl (some (.long v)), M)) (some (v, S)) := by
  intro r S' hy
  cases hy
  exact ⟨M, rfl, R, H⟩
theorem sim_retV (R : Rp O M S) (H : Fm O M0 M) : Sim eV O M0 (some (.inl none, M)) (some ((), S)) := by
  intro r S' hy
  cases hy
  exact ⟨M, rfl, R, H⟩
theorem sim_rZ {v : Int32} (R : Rp O M S) (H : Fm O M0 M) : Sim eI O M0 (rZ v M) (hz v S) := by
  intro r S' hy
  unfold hz at hy
  unfold rZ
  by_cases hc : v = 0 ∨ v = 1
  · rw [if_pos hc] at hy ⊢
    cases hy
    exact ⟨M, rfl, R, H⟩
  · rw [if_neg hc] at hy; cases hy
theorem sim_cp {p q : Nat × Nat} {sp dp m : Int32} {k : PM → qO} {k' : qS → Option (α × qS)} (hO : okO O) (R : Rp O M S) (H : Fm O M0 M) (h : ∀ (M' : PM) (S' : qS), Rp O M' S' → Fm O M0 M' → Sim e O M0 (k M') (k' S')) : Sim e O M0 (cp M (oA O p.1 p.2) sp (oA O q.1 q.2) dp m k) (hcp O S p sp q dp m k') := by
  intro r S' hy
  unfold hcp at hy
  split at hy
  · rename_i hc
    obtain ⟨ci, c1, c2⟩ := okA_at hc.1
    obtain ⟨di, d1, d2⟩ := okA_at hc.2.1
    have c3 : qKd ci p.2 < 3 := by omega
    have d3 : qKd di q.2 < 3 := by omega
    obtain ⟨-, a2, a3, a4, -⟩ := ((R p.1 ci c1).2 p.2).2.2 c3
    obtain ⟨-, b2, b3, b4, b5⟩ := ((R q.1 di d1).2 q.2).2.2 d3
    have e1 : cp M (oA O p.1 p.2) sp (oA O q.1 q.2) dp m k = k (sA M (oA O q.1 q.2) (va_cpy (mI M (oA O p.1 p.2)) (mI M (oA O q.1 q.2)) sp.toNatClampNeg dp.toNatClampNeg m.toNatClampNeg)) := by
      unfold cp
      rw [if_pos ⟨a2.trans c2, b2.trans d2, hc.2.2.1, hc.2.2.2.1, hc.2.2.2.2.1, by rw [a3]; exact hc.2.2.2.2.2.1, by rw [b3]; exact hc.2.2.2.2.2.2⟩]
    have f1 : mI M (oA O p.1 p.2) = S.1 p.1 p.2 := funext a4
    have f2 : mI M (oA O q.1 q.2) = S.1 q.1 q.2 := funext b4
    rw [e1, f1, f2]
    refine h _ _ ?_ ?_ r S' hy
    · refine Rp_w hO R d1 d3 rfl rfl rfl (fun i => ?_) b5 (fun a' ha => ⟨va_up_ne _ _ ha, rfl⟩) (fun o j i hne => ⟨upA_ne hne, rfl⟩)
      show va_up (mI M) _ _ _ i = upA S.1 q.1 q.2 _ q.1 q.2 i
      rw [va_up_self, upA_same]
    · exact Fm_w H d1 d3 rfl rfl rfl rfl rfl rfl (fun a' ha => ⟨va_up_ne _ _ ha, rfl⟩)
  · cases hy
theorem sim_retIx {v : Int32} (R : Rp O M S) (H : Fm O M0 M) : Sim (eX eI) O M0 (some (.inl (some (.int v)), M)) (some (.inl v, S)) := by
  intro r S' hy
  cases hy
  exact ⟨M, rfl, R, H⟩
theorem sim_retVx (R : Rp O M S) (H : Fm O M0 M) : Sim (eX eV) O M0 (some (.inl none, M)) (some (.inl (), S)) := by
  intro r S' hy
  cases hy
  exact ⟨M, rfl, R, H⟩
theorem sim_throw {E : String} (R : Rp O M S) (H : Fm O M0 M) : Sim (eX e) O M0 (some (.inr E, nX M)) (some (.inr E, S)) := by
  intro r S' hy
  cases hy
  refine ⟨nX M, rfl, R, ?_⟩
  obtain ⟨f1, f2, f3, f4, f5, f6, f7⟩ := H
  exact ⟨f1, f2, f3, congrArg (· + 1) f4, congrArg (· + 6) f5, f6, f7⟩
theorem sim_tI {x : qO} {y : Option ((Int32 ⊕ String) × qS)} {k : Int32 → PM → qO} {k' : Int32 → qS → Option ((α ⊕ String) × qS)} (hx : Sim (eX eI) O M0 x y) (h : ∀ v (M' : PM) (S' : qS), Rp O M' S' → Fm O M0 M' → Sim (eX e) O M0 (k v M') (k' v S')) : Sim (eX e) O M0 (tI x k) (tC y k') := by
  intro r S' hy
  cases y with
  | none => cases hy
  | some q =>
    obtain ⟨q1, q2⟩ := q
    cases q1 with
    | inl v =>
      obtain ⟨M', e1, R', H'⟩ := hx _ _ rfl
      subst e1
      exact h _ _ _ R' H' r S' hy
    | inr E =>
      obtain ⟨M', e1, R', H'⟩ := hx _ _ rfl
      subst e1
      cases hy
      exact ⟨M', rfl, R', H'⟩
theorem sim_tV {x : qO} {y : Option ((Unit ⊕ String) × qS)} {k : PM → qO} {k' : qS → Option ((α ⊕ String) × qS)} (hx : Sim (eX eV) O M0 x y) (h : ∀ (M' : PM) (S' : qS), Rp O M' S' → Fm O M0 M' → Sim (eX e) O M0 (k M') (k' S')) : Sim (eX e) O M0 (tV x k) (tW y k') := by
  intro r S' hy
  cases y with
  | none => cases hy
  | some q =>
    obtain ⟨q1, q2⟩ := q
    cases q1 with
    | inl v =>
      obtain ⟨M', e1, R', H'⟩ := hx _ _ rfl
      subst e1
      exact h _ _ R' H' r S' hy
    | inr E =>
      obtain ⟨M', e1, R', H'⟩ := hx _ _ rfl
      subst e1
      cases hy
      exact ⟨M', rfl, R', H'⟩
theorem sim_rZx {v : Int32} (R : Rp O M S) (H : Fm O M0 M) : Sim (eX eI) O M0 (rZ v M) (hzx v S) := by
  intro r S' hy
  unfold hzx at hy
  unfold rZ
  by_cases hc : v = 0 ∨ v = 1
  · rw [if_pos hc] at hy ⊢
    cases hy
    exact ⟨M, rfl, R, H⟩
  · rw [if_neg hc] at hy; cases hy
theorem sim_none {x : qO} : Sim e O M0 x (none : Option (α × qS)) := fun r S' hy => by cases hy
end SIM
