/-! THE PURE MACHINE. A memory M: how many cells, their kinds (0 int[], 1 boolean[], 2 long[], 3 + ci an object of class ci of qCl), lengths, ints, longs, fields, and how many cells and slots were made. A reference is a cell's number; the script is .retAddr 0, a table of longs .retAddr 1. g: what stays in a run. EW: the machine goes on from here to the end that Z names. -/
abbrev PM : Type := Nat × (Nat → Nat) × (Nat → Nat) × (Nat → Nat → Int32) × (Nat → Nat → Int64) × (Nat → Nat → Value) × Nat × Nat
def mS (M : PM) : Nat := M.1
def mK (M : PM) : Nat → Nat := M.2.1
def mN (M : PM) : Nat → Nat := M.2.2.1
def mI (M : PM) : Nat → Nat → Int32 := M.2.2.2.1
def mL (M : PM) : Nat → Nat → Int64 := M.2.2.2.2.1
def mF (M : PM) : Nat → Nat → Value := M.2.2.2.2.2.1
def mC (M : PM) : Nat := M.2.2.2.2.2.2.1
def mT (M : PM) : Nat := M.2.2.2.2.2.2.2
def up2 {α : Type} (f : Nat → Nat → α) (a j : Nat) (v : α) : Nat → Nat → α := fun a' j' => if a' = a ∧ j' = j then v else f a' j'
def sI (M : PM) (a j : Nat) (v : Int32) : PM := (mS M, mK M, mN M, up2 (mI M) a j v, mL M, mF M, mC M, mT M)
def sL (M : PM) (a j : Nat) (v : Int64) : PM := (mS M, mK M, mN M, mI M, up2 (mL M) a j v, mF M, mC M, mT M)
def sF (M : PM) (a j : Nat) (v : Value) : PM := (mS M, mK M, mN M, mI M, mL M, up2 (mF M) a j v, mC M, mT M)
def nA (M : PM) (kd n : Nat) : PM := (mS M + 1, va_up (mK M) (mS M) kd, va_up (mN M) (mS M) n, va_up (mI M) (mS M) (fun _ => 0), va_up (mL M) (mS M) (fun _ => 0), mF M, mC M + 1, mT M + n)
def qNf (ci : Nat) : Nat := ((qCl[ci]?).map (fun q => q.2.2)).getD 0
def nO (M : PM) (ci : Nat) : PM := (mS M + 1, va_up (mK M) (mS M) (ci + 3), mN M, mI M, mL M, va_up (mF M) (mS M) (qDf ci), mC M + 1, mT M + qNf ci)
def nX (M : PM) : PM := (mS M, mK M, mN M, mI M, mL M, mF M, mC M + 1, mT M + 6)
def rV (g : qG) (ad : Nat → Nat) : Value → Value
  | .ref k => .ref (ad k)
  | .retAddr 0 => .ref g.2.2.2.1.1
  | .retAddr (_ + 1) => .ref g.2.2.2.2
  | .int v => .int v
  | .long v => .long v
  | .float v => .float v
  | .double v => .double v
  | .null => .null
theorem rV_cat (g : qG) (ad : Nat → Nat) (v : Value) : (rV g ad v).category = v.category := by
  cases v with
  | retAddr n => cases n <;> rfl
  | _ => rfl
def wfV (n : Nat) : Value → Prop
  | .ref k => k < n
  | _ => True
def wfS (n : Nat) : List Value → Prop
  | [] => True
  | v :: st => wfV n v ∧ wfS n st
def wfL (n : Nat) (L : List (Nat × Value)) : Prop := ∀ q ∈ L, wfV n q.2
def wfM (M : PM) : Prop := (∀ k, k < mS M → 3 ≤ mK M k → ∀ j, wfV (mS M) (mF M k j)) ∧ ∀ k, mN M k < 2 ^ 31
theorem wfV_mono {n n' : Nat} (h : n ≤ n') : ∀ {v : Value}, wfV n v → wfV n' v := by
  intro v hv
  cases v <;> first | trivial | exact Nat.lt_of_lt_of_le hv h
theorem wfS_mono {n n' : Nat} (h : n ≤ n') : ∀ {st : List Value}, wfS n st → wfS n' st := by
  intro st
  induction st with
  | nil => exact fun _ => trivial
  | cons v t ih => exact fun hh => ⟨wfV_mono h hh.1, ih hh.2⟩
theorem wfL_mono {n n' : Nat} (h : n ≤ n') {L : List (Nat × Value)} (hL : wfL n L) : wfL n' L := fun q hq => wfV_mono h (hL q hq)
theorem rV_ext {g : qG} {ad ad' : Nat → Nat} {n : Nat} (h : ∀ k, k < n → ad' k = ad k) : ∀ {v : Value}, wfV n v → rV g ad' v = rV g ad v := by
  intro v hv
  cases v with
  | ref k => exact congrArg Value.ref (h k hv)
  | retAddr n => cases n <;> rfl
  | _ => rfl
theorem rS_ext {g : qG} {ad ad' : Nat → Nat} {n : Nat} (h : ∀ k, k < n → ad' k = ad k) : ∀ {st : List Value}, wfS n st → st.map (rV g ad') = st.map (rV g ad) := by
  intro st
  induction st with
  | nil => exact fun _ => rfl
  | cons v t ih => exact fun hh => by rw [List.map_cons, List.map_cons, rV_ext h hh.1, ih hh.2]
abbrev rL (g : qG) (ad : Nat → Nat) (L : List (Nat × Value)) : List (Nat × Value) := L.map (fun q => (q.1, rV g ad q.2))
theorem rL_ext {g : qG} {ad ad' : Nat → Nat} {n : Nat} (h : ∀ k, k < n → ad' k = ad k) {L : List (Nat × Value)} (hL : wfL n L) : rL g ad' L = rL g ad L :=
  List.map_congr_left fun q hq => by rw [rV_ext h (hL q hq)]
def rE (g : qG) (ad : Nat → Nat) (M : PM) (k : Nat) : va_E :=
  match mK M k with
  | 0 => .inl (g.2.2.1.1, mN M k, .inl (mI M k))
  | 1 => .inl (g.2.2.1.2.1, mN M k, .inl (mI M k))
  | 2 => .inl (g.2.2.1.2.2, mN M k, .inr (.inl (mL M k)))
  | ci + 3 => .inr (ci, (List.range (qNf ci)).map (fun j => rV g ad (mF M k j)))
theorem rE_0 {g : qG} {ad : Nat → Nat} {M : PM} {k : Nat} (h : mK M k = 0) : rE g ad M k = .inl (g.2.2.1.1, mN M k, .inl (mI M k)) := by unfold rE; rw [h]
theorem rE_1 {g : qG} {ad : Nat → Nat} {M : PM} {k : Nat} (h : mK M k = 1) : rE g ad M k = .inl (g.2.2.1.2.1, mN M k, .inl (mI M k)) := by unfold rE; rw [h]
theorem rE_2 {g : qG} {ad : Nat → Nat} {M : PM} {k : Nat} (h : mK M k = 2) : rE g ad M k = .inl (g.2.2.1.2.2, mN M k, .inr (.inl (mL M k))) := by unfold rE; rw [h]
theorem rE_3 {g : qG} {ad : Nat → Nat} {M : PM} {k ci : Nat} (h : mK M k = ci + 3) : rE g ad M k = .inr (ci, (List.range (qNf ci)).map (fun j => rV g ad (mF M k j))) := by unfold rE; rw [h]
theorem rE_ext {g : qG} {ad ad' : Nat → Nat} {M : PM} (hw : wfM M) (h : ∀ k, k < mS M → ad' k = ad k) {k : Nat} (hk : k < mS M) : rE g ad' M k = rE g ad M k := by
  rcases Nat.lt_or_ge (mK M k) 3 with h3 | h3
  · rcases (show mK M k = 0 ∨ mK M k = 1 ∨ mK M k = 2 by omega) with e | e | e
    · rw [rE_0 e, rE_0 e]
    · rw [rE_1 e, rE_1 e]
    · rw [rE_2 e, rE_2 e]
  · obtain ⟨ci, e⟩ : ∃ ci, mK M k = ci + 3 := ⟨mK M k - 3, by omega⟩
    rw [rE_3 e, rE_3 e]
    have : (fun j => rV g ad' (mF M k j)) = (fun j => rV g ad (mF M k j)) := funext fun j => rV_ext h (hw.1 k hk h3 j)
    rw [this]
def rW (g : qG) (ad : Nat → Nat) (M : PM) : va_W := (List.range (mS M)).map (fun k => (ad k, rE g ad M k))
theorem rW_get {g : qG} {ad : Nat → Nat} {M : PM} {k : Nat} (h : k < mS M) : (rW g ad M)[k]? = some (ad k, rE g ad M k) := by
  simp [rW, h]
theorem rW_set {g : qG} {ad : Nat → Nat} {M M' : PM} {k : Nat} (hs : mS M' = mS M) (ho : ∀ j, j ≠ k → rE g ad M' j = rE g ad M j) : (rW g ad M).set k (ad k, rE g ad M' k) = rW g ad M' := by
  apply List.ext_getElem?
  intro i
  rw [List.getElem?_set]
  by_cases hi : i < mS M
  · by_cases e : k = i
    · subst e
      have h1 : k < (rW g ad M).length := by simpa [rW] using hi
      rw [if_pos rfl, if_pos h1, rW_get (by rw [hs]; exact hi)]
    · rw [if_neg e, rW_get hi, rW_get (by rw [hs]; exact hi), ho i (fun z => e z.symm)]
  · have h1 : (rW g ad M)[i]? = none := by simp [rW]; omega
    have h2 : (rW g ad M')[i]? = none := by simp [rW]; omega
    have h3 : ¬ i < (rW g ad M).length := by simpa [rW] using hi
    by_cases e : k = i
    · subst e
      rw [if_pos rfl, if_neg h3, h2]
    · rw [if_neg e, h1, h2]
theorem rW_push {g : qG} {ad ad' : Nat → Nat} {M M' : PM} {q : Nat} (hs : mS M' = mS M + 1) (hq : ad' (mS M) = q) (ho : ∀ j, j < mS M → ad' j = ad j ∧ rE g ad' M' j = rE g ad M j) : rW g ad M ++ [(q, rE g ad' M' (mS M))] = rW g ad' M' := by
  unfold rW
  rw [hs, List.range_succ, List.map_append, List.map_cons, List.map_nil, hq]
  congr 1
  apply List.map_congr_left
  intro j hj
  obtain ⟨h1, h2⟩ := ho j (List.mem_range.mp hj)
  rw [h1, h2]
def qR (g : qG) (ad : Nat → Nat) (M : PM) (H : Heap) : Prop := va_P g.2.1 qCl (rW g ad M) H ∧ va_D (qA g) (rW g ad M)
/-- what holds of the tables and of the old heap all along -/
def qF (g : qG) (U : State) (H : Heap) : Prop := (∀ w ∈ qTT, w.before #[] U = true) ∧ (∀ w ∈ qNN, va_Nw w U) ∧ va_K g.2.1 qCl (qT g) U ∧ qSt g U H
theorem qF.moved {g : qG} {s U : State} {H : Heap} (hW : s.WarmedH U.vm) (h : qF g s H) : qF g U H :=
  ⟨fun w hw => word_at hW (good_of_word (qTT_good w hw)) (h.1 w hw), fun w hw => qNN_warm w hw hW (h.2.1 w hw), va_K.moved hW.alike h.2.2.1, qSt.moved hW h.2.2.2⟩
theorem qF.kept {g : qG} {U : State} {H H1 : Heap} (h : qF g U H) (hq : ∀ a : Nat, a < H.size → ¬ qA g a → H1[a]? = H[a]?) : qF g U H1 := ⟨h.1, h.2.1, h.2.2.1, qSt.kept h.2.2.2 hq⟩
theorem qF.word {g : qG} {U : State} {H : Heap} (h : qF g U H) {w : Cond} (hw : w ∈ qTT) (a : Array Value) : w.before a U = true := word_at (State.WarmedH.refl U) (good_of_word (qTT_good w hw)) (h.1 w hw)
abbrev qX : Type := Program × Launch × Env × Room × State × MethodId × Array Value × List Frame × Method × Code
abbrev qZ : Type := (Nat → Nat) × PM × (Option Value ⊕ String) × PM × Nat × Nat
abbrev xp (X : qX) : Program := X.1
abbrev xl (X : qX) : Launch := X.2.1
abbrev xe (X : qX) : Env := X.2.2.1
abbrev xR (X : qX) : Room := X.2.2.2.1
abbrev xs (X : qX) : State := X.2.2.2.2.1
abbrev xm (X : qX) : MethodId := X.2.2.2.2.2.1
abbrev xa (X : qX) : Array Value := X.2.2.2.2.2.2.1
abbrev xb (X : qX) : List Frame := X.2.2.2.2.2.2.2.1
abbrev xh (X : qX) : Method := X.2.2.2.2.2.2.2.2.1
abbrev xc (X : qX) : Code := X.2.2.2.2.2.2.2.2.2
abbrev za (Z : qZ) : Nat → Nat := Z.1
abbrev z0 (Z : qZ) : PM := Z.2.1
abbrev zr (Z : qZ) : Option Value ⊕ String := Z.2.2.1
abbrev zf (Z : qZ) : PM := Z.2.2.2.1
abbrev zn (Z : qZ) : Nat := Z.2.2.2.2.1
abbrev zl (Z : qZ) : Nat := Z.2.2.2.2.2
/-- how a method that began in st with memory M0 has ended: res, the memory then is Mf -/
def qEd (g : qG) (ad0 : Nat → Nat) (M0 : PM) (res : Option Value ⊕ String) (Mf : PM) (st : State) (o : Outcome) (t : State) : Prop :=
  ((∃ (v : Option Value) (ad : Nat → Nat), res = .inl v ∧ o = .returned (v.map (rV g ad)) ∧ (∀ k, k < mS M0 → ad k = ad0 k) ∧ qR g ad Mf t.heap ∧ wfM Mf ∧ wfS (mS Mf) v.toList) ∧ va_F (qA g) st t ∧ ∃ L, FrameEnd st o t L (mC Mf - mC M0) (mT Mf - mT M0) ∧ ∀ q ∈ L, qA g q.base) ∨
  (∃ (E : String) (q : Addr) (ce : Cell) (L : List Loc) (ad : Nat → Nat), res = .inr E ∧ o = .threw q ∧ (∀ k, k < mS M0 → ad k = ad0 k) ∧ qR g ad Mf t.heap ∧ wfM Mf ∧ va_F (qA g) st t ∧ t.heap[q]? = some ce ∧ ce.vm = .none ∧ st.vm.findClass E = some ce.cls ∧ st.WarmedH t.vm ∧ st.sameButNew ({ t with vm := st.vm } : State) L (mC Mf - mC M0) (mT Mf - mT M0) ∧ ∀ z ∈ L, qA g z.base)
def qOk (Y : qY) (g : qG) (X : qX) (Z : qZ) : Prop :=
  (xp X).tables.exec = Jvm.exec ∧ (xc X).code = Y.2.1 ∧ (xc X).maxLocals = Y.2.2.1 ∧ (xs X).vm.findClass Y.1.cls = some (xm X).cls ∧ (xh X).sig.returnType = Y.2.2.2 ∧ (xh X).locks = false ∧ (xc X).exceptionTable.toList.map (fun h => (h.startPc, h.endPc, h.handlerPc, h.catchType)) = qHd Y ∧ (xh X).name = Y.1.name ∧ (xl X).stackTraces = false ∧ qF g (xs X) (xs X).heap ∧ g.1 ≤ (xs X).heap.size ∧ zn Z ≤ (xR X).frames ∧ zl Z ≤ (xR X).locals ∧ mC (zf Z) - mC (z0 Z) ≤ (xR X).cells ∧ mT (zf Z) - mT (z0 Z) ≤ (xR X).slots
def qIn (Y : qY) (g : qG) (X : qX) (Z : qZ) (L : List (Nat × Value)) (M : PM) (ad : Nat → Nat) (H : Heap) (locs : List Loc) (cells slots : Nat) (ls : Array Slot) : Prop :=
  (mS (z0 Z) ≤ mS M ∧ ∀ k, k < mS (z0 Z) → ad k = za Z k) ∧ qR g ad M H ∧ wfM M ∧ wfL (mS M) L ∧ va_S (qA g) (xs X).heap H locs ∧ lv_has ls Y.2.2.1 (rL g ad L) ∧ cells + mC (z0 Z) = mC M ∧ slots + mT (z0 Z) = mT M
abbrev qW (g : qG) (X : qX) (Z : qZ) (H : Heap) (locs : List Loc) (cells slots : Nat) (fr : JFrame) : Prop :=
  W (xp X) (xl X) (xe X) (xR X) (xs X) (xm X) (xa X) (xb X) (xh X) (xc X) H locs cells slots (fun t => ∃ o, t.status = .running ∧ Ended t (xb X) o ∧ qEd g (za Z) (z0 Z) (zr Z) (zf Z) (xs X) o t) fr
def EW (Y : qY) (g : qG) (X : qX) (Z : qZ) (pc : Nat) (L : List (Nat × Value)) (st : List Value) (M : PM) : Prop :=
  (mC M ≤ mC (zf Z) ∧ mT M ≤ mT (zf Z) ∧ mS M ≤ mS (zf Z)) ∧ (qOk Y g X Z → ∀ (ad : Nat → Nat) (H : Heap) (locs : List Loc) (cells slots : Nat) (ls : Array Slot), qIn Y g X Z L M ad H locs cells slots ls → wfS (mS M) st → qW g X Z H locs cells slots (F0 (xm X) pc ls (st.map (rV g ad))))
def qLk : List (Nat × Value) → Nat → Option Value
  | [], _ => none
  | q :: L, i => cond (Nat.beq q.1 i) (some q.2) (qLk L i)
theorem qLk_mem {i : Nat} {v : Value} : ∀ {L : List (Nat × Value)}, qLk L i = some v → (i, v) ∈ L := by
  intro L
  induction L with
  | nil => intro h; cases h
  | cons q t ih =>
    intro h
    unfold qLk at h
    cases hb : Nat.beq q.1 i with
    | true =>
      rw [hb] at h
      have e1 : q.1 = i := Nat.eq_of_beq_eq_true hb
      have e2 : q.2 = v := Option.some.inj h
      subst e1; subst e2
      exact List.mem_cons_self
    | false =>
      rw [hb] at h
      exact List.mem_cons_of_mem _ (ih h)
theorem rL_mem {g : qG} {ad : Nat → Nat} {L : List (Nat × Value)} {ls : Array Slot} {n i : Nat} {v : Value} (h : lv_has ls n (rL g ad L)) (hv : qLk L i = some v) : ls[i]? = some (.val (rV g ad v)) :=
  h.2.2 (i, rV g ad v) (List.mem_map.mpr ⟨(i, v), qLk_mem hv, rfl⟩)
def qS1 (i : Nat) (v : Value) (L : List (Nat × Value)) : List (Nat × Value) := (i, v) :: L.filter (fun q => !(q.1 == i) && !(q.1 + 1 == i && q.2.category == 2))
def qS2 (i : Nat) (v : Value) (L : List (Nat × Value)) : List (Nat × Value) := (i, v) :: L.filter (fun q => !(q.1 == i) && (!(q.1 == i + 1) && !(q.1 + 1 == i && q.2.category == 2)))
theorem rL_S1 (g : qG) (ad : Nat → Nat) (i : Nat) (v : Value) (L : List (Nat × Value)) : (i, rV g ad v) :: (rL g ad L).filter (fun q => !(q.1 == i) && !(q.1 + 1 == i && q.2.category == 2)) = rL g ad (qS1 i v L) := by
  simp only [rL, qS1, List.map_cons, List.filter_map]
  congr 2
  apply List.filter_congr
  intro q _
  simp [rV_cat]
theorem rL_S2 (g : qG) (ad : Nat → Nat) (i : Nat) (v : Value) (L : List (Nat × Value)) : (i, rV g ad v) :: (rL g ad L).filter (fun q => !(q.1 == i) && (!(q.1 == i + 1) && !(q.1 + 1 == i && q.2.category == 2))) = rL g ad (qS2 i v L) := by
  simp only [rL, qS2, List.map_cons, List.filter_map]
  congr 2
  apply List.filter_congr
  intro q _
  simp [rV_cat]
theorem pick_mem {L L' : List (Nat × Value)} {ks : List Nat} (h : lv_pick L ks = L') : ∀ q ∈ L', q ∈ L := by
  intro q hq
  rw [← h] at hq
  obtain ⟨k, -, hk⟩ := List.mem_filterMap.mp hq
  exact List.mem_of_getElem? hk
theorem rL_sub {g : qG} {ad : Nat → Nat} {L L' : List (Nat × Value)} {ls : Array Slot} {n : Nat} (h : lv_has ls n (rL g ad L)) (hs : ∀ q ∈ L', q ∈ L) : lv_has ls n (rL g ad L') := by
  refine ⟨h.1, h.2.1, fun q hq => ?_⟩
  obtain ⟨z, hz, rfl⟩ := List.mem_map.mp hq
  exact h.2.2 _ (List.mem_map.mpr ⟨z, hs z hz, rfl⟩)
theorem qS1_mem {n i : Nat} {v : Value} {L : List (Nat × Value)} (hv : wfV n v) (hL : wfL n L) : wfL n (qS1 i v L) := by
  intro q hq
  rcases List.mem_cons.mp hq with h | h
  · rw [h]; exact hv
  · exact hL q (List.mem_filter.mp h).1
theorem qS2_mem {n i : Nat} {v : Value} {L : List (Nat × Value)} (hv : wfV n v) (hL : wfL n L) : wfL n (qS2 i v L) := by
  intro q hq
  rcases List.mem_cons.mp hq with h | h
  · rw [h]; exact hv
  · exact hL q (List.mem_filter.mp h).1
section EWR
variable {Y : qY} {g : qG} {X : qX} {Z : qZ} {pc : Nat} {L L' : List (Nat × Value)} {st : List Value} {M : PM}
/-- fewer locals, in another order -/
theorem ew_pick (ks : List Nat) (hl : lv_pick L ks = L') (k : EW Y g X Z pc L' st M) : EW Y g X Z pc L st M :=
  ⟨k.1, fun ok ad H locs cells slots ls I hs => k.2 ok ad H locs cells slots ls ⟨I.1, I.2.1, I.2.2.1, fun q hq => I.2.2.2.1 q (pick_mem hl q hq), I.2.2.2.2.1, rL_sub I.2.2.2.2.2.1 (pick_mem hl), I.2.2.2.2.2.2⟩ hs⟩
theorem ew_op {pc' : Nat} {st' : List Value} (k : EW Y g X Z pc' L st' M) (hw : wfM M → wfL (mS M) L → wfS (mS M) st → wfS (mS M) st')
    (hop : qOk Y g X Z → ∀ (ad : Nat → Nat) (H : Heap) (locs : List Loc) (cells slots : Nat) (ls : Array Slot), lv_has ls Y.2.2.1 (rL g ad L) → qW g X Z H locs cells slots (F0 (xm X) pc' ls (st'.map (rV g ad))) → qW g X Z H locs cells slots (F0 (xm X) pc ls (st.map (rV g ad)))) : EW Y g X Z pc L st M :=
  ⟨k.1, fun ok ad H locs cells slots ls I hs => hop ok ad H locs cells slots ls I.2.2.2.2.2.1 (k.2 ok ad H locs cells slots ls I (hw I.2.2.1 I.2.2.2.1 hs))⟩
theorem ew_br {c : Prop} {p1 p2 : Nat} {st' : List Value} (kt : c → EW Y g X Z p1 L st' M) (kf : ¬ c → EW Y g X Z p2 L st' M) (hw : wfS (mS M) st → wfS (mS M) st')
    (hop : qOk Y g X Z → ∀ (ad : Nat → Nat) (H : Heap) (locs : List Loc) (cells slots : Nat) (ls : Array Slot), (c → qW g X Z H locs cells slots (F0 (xm X) p1 ls (st'.map (rV g ad)))) → (¬ c → qW g X Z H locs cells slots (F0 (xm X) p2 ls (st'.map (rV g ad)))) → qW g X Z H locs cells slots (F0 (xm X) pc ls (st.map (rV g ad)))) : EW Y g X Z pc L st M :=
  ⟨(Classical.em c).elim (fun h => (kt h).1) (fun h => (kf h).1), fun ok ad H locs cells slots ls I hs => hop ok ad H locs cells slots ls (fun h => (kt h).2 ok ad H locs cells slots ls I (hw hs)) (fun h => (kf h).2 ok ad H locs cells slots ls I (hw hs))⟩

theorem ew_iconst {n : Int} (v : Int32) (hd : decode Y.2.1 pc = .ok (.iconst n, 1)) (hv : Int32.ofInt n = v) (k : EW Y g X Z (pc + 1) L (.int v :: st) M) : EW Y g X Z pc L st M :=
  ew_op k (fun _ _ h => ⟨trivial, h⟩) (fun ok ad H locs cells slots ls _ K => lv_iconst ok.1 ok.2.1 hd hv K)
theorem ew_bipush {n : Int} (v : Int32) (hd : decode Y.2.1 pc = .ok (.bipush n, 2)) (hv : (Int8.ofInt n).toInt32 = v) (k : EW Y g X Z (pc + 2) L (.int v :: st) M) : EW Y g X Z pc L st M :=
  ew_op k (fun _ _ h => ⟨trivial, h⟩) (fun ok ad H locs cells slots ls _ K => lv_bipush ok.1 ok.2.1 hd hv K)
theorem ew_sipush {n : Int} (v : Int32) (hd : decode Y.2.1 pc = .ok (.sipush n, 3)) (hv : (Int16.ofInt n).toInt32 = v) (k : EW Y g X Z (pc + 3) L (.int v :: st) M) : EW Y g X Z pc L st M :=
  ew_op k (fun _ _ h => ⟨trivial, h⟩) (fun ok ad H locs cells slots ls _ K => lv_sipush ok.1 ok.2.1 hd hv K)
theorem ew_lconst {n : Fin 2} (v : Int64) (hd : decode Y.2.1 pc = .ok (.lconst n, 1)) (hv : Int64.ofNat (n : Nat) = v) (k : EW Y g X Z (pc + 1) L (.long v :: st) M) : EW Y g X Z pc L st M :=
  ew_op k (fun _ _ h => ⟨trivial, h⟩) (fun ok ad H locs cells slots ls _ K => lv_lconst ok.1 ok.2.1 hd hv K)
theorem ew_iload_n {n : Fin 4} {x : Int32} (i : Nat) (hd : decode Y.2.1 pc = .ok (.iload_n n, 1)) (hi : (n : Nat) = i) (hx : qLk L i = some (.int x)) (k : EW Y g X Z (pc + 1) L (.int x :: st) M) : EW Y g X Z pc L st M :=
  ew_op k (fun _ hL h => ⟨trivial, h⟩) (fun ok ad H locs cells slots ls hl K => lv_iload_n ok.1 ok.2.1 hd hi (rL_mem hl hx) K)
theorem ew_iload {i : Nat} {x : Int32} (hd : decode Y.2.1 pc = .ok (.iload i, 2)) (hx : qLk L i = some (.int x)) (k : EW Y g X Z (pc + 2) L (.int x :: st) M) : EW Y g X Z pc L st M :=
  ew_op k (fun _ hL h => ⟨trivial, h⟩) (fun ok ad H locs cells slots ls hl K => lv_iload ok.1 ok.2.1 hd (rL_mem hl hx) K)
theorem ew_lload_n {n : Fin 4} {x : Int64} (i : Nat) (hd : decode Y.2.1 pc = .ok (.lload_n n, 1)) (hi : (n : Nat) = i) (hx : qLk L i = some (.long x)) (k : EW Y g X Z (pc + 1) L (.long x :: st) M) : EW Y g X Z pc L st M :=
  ew_op k (fun _ hL h => ⟨trivial, h⟩) (fun ok ad H locs cells slots ls hl K => lv_lload_n ok.1 ok.2.1 hd hi (rL_mem hl hx) K)
theorem ew_lload {i : Nat} {x : Int64} (hd : decode Y.2.1 pc = .ok (.lload i, 2)) (hx : qLk L i = some (.long x)) (k : EW Y g X Z (pc + 2) L (.long x :: st) M) : EW Y g X Z pc L st M :=
  ew_op k (fun _ hL h => ⟨trivial, h⟩) (fun ok ad H locs cells slots ls hl K => lv_lload ok.1 ok.2.1 hd (rL_mem hl hx) K)
theorem ew_aload_n {n : Fin 4} {x : Nat} (i : Nat) (hd : decode Y.2.1 pc = .ok (.aload_n n, 1)) (hi : (n : Nat) = i) (hx : qLk L i = some (.ref x)) (k : EW Y g X Z (pc + 1) L (.ref x :: st) M) : EW Y g X Z pc L st M :=
  ew_op k (fun _ hL h => ⟨hL (i, .ref x) (qLk_mem hx), h⟩) (fun ok ad H locs cells slots ls hl K => lv_aload_n ok.1 ok.2.1 hd hi (rL_mem hl hx) K)
theorem ew_aload {i : Nat} {x : Nat} (hd : decode Y.2.1 pc = .ok (.aload i, 2)) (hx : qLk L i = some (.ref x)) (k : EW Y g X Z (pc + 2) L (.ref x :: st) M) : EW Y g X Z pc L st M :=
  ew_op k (fun _ hL h => ⟨hL (i, .ref x) (qLk_mem hx), h⟩) (fun ok ad H locs cells slots ls hl K => lv_aload ok.1 ok.2.1 hd (rL_mem hl hx) K)
theorem ew_aload_s {n : Fin 4} (i : Nat) (hd : decode Y.2.1 pc = .ok (.aload_n n, 1)) (hi : (n : Nat) = i) (hx : qLk L i = some (.retAddr 0)) (k : EW Y g X Z (pc + 1) L (.retAddr 0 :: st) M) : EW Y g X Z pc L st M :=
  ew_op k (fun _ _ h => ⟨trivial, h⟩) (fun ok ad H locs cells slots ls hl K => lv_aload_n ok.1 ok.2.1 hd hi (rL_mem hl hx) K)
theorem ew_istore_n {n : Fin 4} {x : Int32} (i : Nat) (ks : List Nat) (hd : decode Y.2.1 pc = .ok (.istore_n n, 1)) (hi : (n : Nat) = i) (hn : i < Y.2.2.1) (hl : lv_pick (qS1 i (.int x) L) ks = L') (k : EW Y g X Z (pc + 1) L' st M) : EW Y g X Z pc L (.int x :: st) M :=
  ⟨k.1, fun ok ad H locs cells slots ls I hs => lv_istore_n ok.1 ok.2.1 hd hi I.2.2.2.2.2.1 hn (rL_S1 g ad i (.int x) L) (fun ls' h' => k.2 ok ad H locs cells slots ls' ⟨I.1, I.2.1, I.2.2.1, fun q hq => qS1_mem hs.1 I.2.2.2.1 q (pick_mem hl q hq), I.2.2.2.2.1, rL_sub h' (pick_mem hl), I.2.2.2.2.2.2⟩ hs.2)⟩
theorem ew_istore {x : Int32} {i : Nat} (ks : List Nat) (hd : decode Y.2.1 pc = .ok (.istore i, 2)) (hn : i < Y.2.2.1) (hl : lv_pick (qS1 i (.int x) L) ks = L') (k : EW Y g X Z (pc + 2) L' st M) : EW Y g X Z pc L (.int x :: st) M :=
  ⟨k.1, fun ok ad H locs cells slots ls I hs => lv_istore ok.1 ok.2.1 hd I.2.2.2.2.2.1 hn (rL_S1 g ad i (.int x) L) (fun ls' h' => k.2 ok ad H locs cells slots ls' ⟨I.1, I.2.1, I.2.2.1, fun q hq => qS1_mem hs.1 I.2.2.2.1 q (pick_mem hl q hq), I.2.2.2.2.1, rL_sub h' (pick_mem hl), I.2.2.2.2.2.2⟩ hs.2)⟩
theorem ew_lstore_n {n : Fin 4} {x : Int64} (i : Nat) (ks : List Nat) (hd : decode Y.2.1 pc = .ok (.lstore_n n, 1)) (hi : (n : Nat) = i) (hn : i + 1 < Y.2.2.1) (hl : lv_pick (qS2 i (.long x) L) ks = L') (k : EW Y g X Z (pc + 1) L' st M) : EW Y g X Z pc L (.long x :: st) M :=
  ⟨k.1, fun ok ad H locs cells slots ls I hs => lv_lstore_n ok.1 ok.2.1 hd hi I.2.2.2.2.2.1 hn (rL_S2 g ad i (.long x) L) (fun ls' h' => k.2 ok ad H locs cells slots ls' ⟨I.1, I.2.1, I.2.2.1, fun q hq => qS2_mem hs.1 I.2.2.2.1 q (pick_mem hl q hq), I.2.2.2.2.1, rL_sub h' (pick_mem hl), I.2.2.2.2.2.2⟩ hs.2)⟩
theorem ew_lstore {x : Int64} {i : Nat} (ks : List Nat) (hd : decode Y.2.1 pc = .ok (.lstore i, 2)) (hn : i + 1 < Y.2.2.1) (hl : lv_pick (qS2 i (.long x) L) ks = L') (k : EW Y g X Z (pc + 2) L' st M) : EW Y g X Z pc L (.long x :: st) M :=
  ⟨k.1, fun ok ad H locs cells slots ls I hs => lv_lstore ok.1 ok.2.1 hd I.2.2.2.2.2.1 hn (rL_S2 g ad i (.long x) L) (fun ls' h' => k.2 ok ad H locs cells slots ls' ⟨I.1, I.2.1, I.2.2.1, fun q hq => qS2_mem hs.1 I.2.2.2.1 q (pick_mem hl q hq), I.2.2.2.2.1, rL_sub h' (pick_mem hl), I.2.2.2.2.2.2⟩ hs.2)⟩
theorem ew_astore_n {n : Fin 4} {x : Nat} (i : Nat) (ks : List Nat) (hd : decode Y.2.1 pc = .ok (.astore_n n, 1)) (hi : (n : Nat) = i) (hn : i < Y.2.2.1) (hl : lv_pick (qS1 i (.ref x) L) ks = L') (k : EW Y g X Z (pc + 1) L' st M) : EW Y g X Z pc L (.ref x :: st) M :=
  ⟨k.1, fun ok ad H locs cells slots ls I hs => lv_astore_n ok.1 ok.2.1 hd hi I.2.2.2.2.2.1 hn (rL_S1 g ad i (.ref x) L) (fun ls' h' => k.2 ok ad H locs cells slots ls' ⟨I.1, I.2.1, I.2.2.1, fun q hq => qS1_mem hs.1 I.2.2.2.1 q (pick_mem hl q hq), I.2.2.2.2.1, rL_sub h' (pick_mem hl), I.2.2.2.2.2.2⟩ hs.2)⟩
theorem ew_astore {x : Nat} {i : Nat} (ks : List Nat) (hd : decode Y.2.1 pc = .ok (.astore i, 2)) (hn : i < Y.2.2.1) (hl : lv_pick (qS1 i (.ref x) L) ks = L') (k : EW Y g X Z (pc + 2) L' st M) : EW Y g X Z pc L (.ref x :: st) M :=
  ⟨k.1, fun ok ad H locs cells slots ls I hs => lv_astore ok.1 ok.2.1 hd I.2.2.2.2.2.1 hn (rL_S1 g ad i (.ref x) L) (fun ls' h' => k.2 ok ad H locs cells slots ls' ⟨I.1, I.2.1, I.2.2.1, fun q hq => qS1_mem hs.1 I.2.2.2.1 q (pick_mem hl q hq), I.2.2.2.2.1, rL_sub h' (pick_mem hl), I.2.2.2.2.2.2⟩ hs.2)⟩
theorem qLk_at {i : Nat} {v : Value} {L : List (Nat × Value)} (h : qLk L i = some v) : ∃ k : Nat, L[k]? = some (i, v) := List.getElem?_of_mem (qLk_mem h)
theorem ew_iinc {i : Nat} {n : Int} {x : Int32} (v : Int32) (ks : List Nat) (hd : decode Y.2.1 pc = .ok (.iinc i n, 3)) (hx : qLk L i = some (.int x)) (hv : x + Int32.ofInt n = v) (hn : i < Y.2.2.1) (hl : lv_pick (qS1 i (.int v) L) ks = L') (k : EW Y g X Z (pc + 3) L' st M) : EW Y g X Z pc L st M := by
  refine ⟨k.1, fun ok ad H locs cells slots ls I hs => ?_⟩
  obtain ⟨j, hj⟩ : ∃ j : Nat, (rL g ad L)[j]? = some (i, Value.int x) := by
    obtain ⟨j, hj⟩ := qLk_at hx
    exact ⟨j, by rw [List.getElem?_map, hj]; rfl⟩
  exact lv_iinc ok.1 ok.2.1 hd I.2.2.2.2.2.1 hj hv hn (rL_S1 g ad i (.int v) L) (fun ls' h' => k.2 ok ad H locs cells slots ls' ⟨I.1, I.2.1, I.2.2.1, fun q hq => qS1_mem (v := .int v) trivial I.2.2.2.1 q (pick_mem hl q hq), I.2.2.2.2.1, rL_sub h' (pick_mem hl), I.2.2.2.2.2.2⟩ hs)
theorem ew_iadd {x y : Int32} (hd : decode Y.2.1 pc = .ok (.iadd, 1)) (k : EW Y g X Z (pc + 1) L (.int (x + y) :: st) M) : EW Y g X Z pc L (.int y :: .int x :: st) M :=
  ew_op k (fun _ _ h => ⟨trivial, h.2.2⟩) (fun ok ad H locs cells slots ls _ K => lv_iadd ok.1 ok.2.1 hd K)
theorem ew_isub {x y : Int32} (hd : decode Y.2.1 pc = .ok (.isub, 1)) (k : EW Y g X Z (pc + 1) L (.int (x - y) :: st) M) : EW Y g X Z pc L (.int y :: .int x :: st) M :=
  ew_op k (fun _ _ h => ⟨trivial, h.2.2⟩) (fun ok ad H locs cells slots ls _ K => lv_isub ok.1 ok.2.1 hd K)
theorem ew_imul {x y : Int32} (hd : decode Y.2.1 pc = .ok (.imul, 1)) (k : EW Y g X Z (pc + 1) L (.int (x * y) :: st) M) : EW Y g X Z pc L (.int y :: .int x :: st) M :=
  ew_op k (fun _ _ h => ⟨trivial, h.2.2⟩) (fun ok ad H locs cells slots ls _ K => lv_imul ok.1 ok.2.1 hd K)
theorem ew_iand {x y : Int32} (hd : decode Y.2.1 pc = .ok (.iand, 1)) (k : EW Y g X Z (pc + 1) L (.int (x &&& y) :: st) M) : EW Y g X Z pc L (.int y :: .int x :: st) M :=
  ew_op k (fun _ _ h => ⟨trivial, h.2.2⟩) (fun ok ad H locs cells slots ls _ K => lv_iand ok.1 ok.2.1 hd K)
theorem ew_ior {x y : Int32} (hd : decode Y.2.1 pc = .ok (.ior, 1)) (k : EW Y g X Z (pc + 1) L (.int (x ||| y) :: st) M) : EW Y g X Z pc L (.int y :: .int x :: st) M :=
  ew_op k (fun _ _ h => ⟨trivial, h.2.2⟩) (fun ok ad H locs cells slots ls _ K => lv_ior ok.1 ok.2.1 hd K)
theorem ew_ixor {x y : Int32} (hd : decode Y.2.1 pc = .ok (.ixor, 1)) (k : EW Y g X Z (pc + 1) L (.int (x ^^^ y) :: st) M) : EW Y g X Z pc L (.int y :: .int x :: st) M :=
  ew_op k (fun _ _ h => ⟨trivial, h.2.2⟩) (fun ok ad H locs cells slots ls _ K => lv_ixor ok.1 ok.2.1 hd K)
theorem ew_ishl {x y : Int32} (hd : decode Y.2.1 pc = .ok (.ishl, 1)) (k : EW Y g X Z (pc + 1) L (.int (x <<< (y &&& 31)) :: st) M) : EW Y g X Z pc L (.int y :: .int x :: st) M :=
  ew_op k (fun _ _ h => ⟨trivial, h.2.2⟩) (fun ok ad H locs cells slots ls _ K => lv_ishl ok.1 ok.2.1 hd K)
theorem ew_ishr {x y : Int32} (hd : decode Y.2.1 pc = .ok (.ishr, 1)) (k : EW Y g X Z (pc + 1) L (.int (x >>> (y &&& 31)) :: st) M) : EW Y g X Z pc L (.int y :: .int x :: st) M :=
  ew_op k (fun _ _ h => ⟨trivial, h.2.2⟩) (fun ok ad H locs cells slots ls _ K => lv_ishr ok.1 ok.2.1 hd K)
theorem ew_ladd {x y : Int64} (hd : decode Y.2.1 pc = .ok (.ladd, 1)) (k : EW Y g X Z (pc + 1) L (.long (x + y) :: st) M) : EW Y g X Z pc L (.long y :: .long x :: st) M :=
  ew_op k (fun _ _ h => ⟨trivial, h.2.2⟩) (fun ok ad H locs cells slots ls _ K => lv_ladd ok.1 ok.2.1 hd K)
theorem ew_lsub {x y : Int64} (hd : decode Y.2.1 pc = .ok (.lsub, 1)) (k : EW Y g X Z (pc + 1) L (.long (x - y) :: st) M) : EW Y g X Z pc L (.long y :: .long x :: st) M :=
  ew_op k (fun _ _ h => ⟨trivial, h.2.2⟩) (fun ok ad H locs cells slots ls _ K => lv_lsub ok.1 ok.2.1 hd K)
theorem ew_lmul {x y : Int64} (hd : decode Y.2.1 pc = .ok (.lmul, 1)) (k : EW Y g X Z (pc + 1) L (.long (x * y) :: st) M) : EW Y g X Z pc L (.long y :: .long x :: st) M :=
  ew_op k (fun _ _ h => ⟨trivial, h.2.2⟩) (fun ok ad H locs cells slots ls _ K => lv_lmul ok.1 ok.2.1 hd K)
theorem ew_land {x y : Int64} (hd : decode Y.2.1 pc = .ok (.land, 1)) (k : EW Y g X Z (pc + 1) L (.long (x &&& y) :: st) M) : EW Y g X Z pc L (.long y :: .long x :: st) M :=
  ew_op k (fun _ _ h => ⟨trivial, h.2.2⟩) (fun ok ad H locs cells slots ls _ K => lv_land ok.1 ok.2.1 hd K)
theorem ew_lor {x y : Int64} (hd : decode Y.2.1 pc = .ok (.lor, 1)) (k : EW Y g X Z (pc + 1) L (.long (x ||| y) :: st) M) : EW Y g X Z pc L (.long y :: .long x :: st) M :=
  ew_op k (fun _ _ h => ⟨trivial, h.2.2⟩) (fun ok ad H locs cells slots ls _ K => lv_lor ok.1 ok.2.1 hd K)
theorem ew_lxor {x y : Int64} (hd : decode Y.2.1 pc = .ok (.lxor, 1)) (k : EW Y g X Z (pc + 1) L (.long (x ^^^ y) :: st) M) : EW Y g X Z pc L (.long y :: .long x :: st) M :=
  ew_op k (fun _ _ h => ⟨trivial, h.2.2⟩) (fun ok ad H locs cells slots ls _ K => lv_lxor ok.1 ok.2.1 hd K)
theorem ew_ineg {x : Int32} (hd : decode Y.2.1 pc = .ok (.ineg, 1)) (k : EW Y g X Z (pc + 1) L (.int (-x) :: st) M) : EW Y g X Z pc L (.int x :: st) M :=
  ew_op k (fun _ _ h => ⟨trivial, h.2⟩) (fun ok ad H locs cells slots ls _ K => lv_ineg ok.1 ok.2.1 hd K)
theorem ew_lneg {x : Int64} (hd : decode Y.2.1 pc = .ok (.lneg, 1)) (k : EW Y g X Z (pc + 1) L (.long (-x) :: st) M) : EW Y g X Z pc L (.long x :: st) M :=
  ew_op k (fun _ _ h => ⟨trivial, h.2⟩) (fun ok ad H locs cells slots ls _ K => lv_lneg ok.1 ok.2.1 hd K)
theorem ew_iushr {x y : Int32} (hd : decode Y.2.1 pc = .ok (.iushr, 1)) (k : EW Y g X Z (pc + 1) L (.int (x.toUInt32 >>> (y.toUInt32 &&& Int32.toUInt32 31)).toInt32 :: st) M) : EW Y g X Z pc L (.int y :: .int x :: st) M :=
  ew_op k (fun _ _ h => ⟨trivial, h.2.2⟩) (fun ok ad H locs cells slots ls _ K => lv_iushr ok.1 ok.2.1 hd rfl K)
theorem ew_lushr {x : Int64} {y : Int32} (hd : decode Y.2.1 pc = .ok (.lushr, 1)) (k : EW Y g X Z (pc + 1) L (.long (x.toUInt64 >>> (y.toInt64.toUInt64 &&& Int64.toUInt64 63)).toInt64 :: st) M) : EW Y g X Z pc L (.int y :: .long x :: st) M :=
  ew_op k (fun _ _ h => ⟨trivial, h.2.2⟩) (fun ok ad H locs cells slots ls _ K => lv_lushr ok.1 ok.2.1 hd rfl K)
theorem ew_lshl {x : Int64} {y : Int32} (hd : decode Y.2.1 pc = .ok (.lshl, 1)) (k : EW Y g X Z (pc + 1) L (.long (x <<< (y.toInt64 &&& 63)) :: st) M) : EW Y g X Z pc L (.int y :: .long x :: st) M :=
  ew_op k (fun _ _ h => ⟨trivial, h.2.2⟩) (fun ok ad H locs cells slots ls _ K => lv_lshl ok.1 ok.2.1 hd rfl K)
theorem ew_lshr {x : Int64} {y : Int32} (hd : decode Y.2.1 pc = .ok (.lshr, 1)) (k : EW Y g X Z (pc + 1) L (.long (x >>> (y.toInt64 &&& 63)) :: st) M) : EW Y g X Z pc L (.int y :: .long x :: st) M :=
  ew_op k (fun _ _ h => ⟨trivial, h.2.2⟩) (fun ok ad H locs cells slots ls _ K => lv_lshr ok.1 ok.2.1 hd rfl K)
theorem ew_i2l {x : Int32} (hd : decode Y.2.1 pc = .ok (.i2l, 1)) (k : EW Y g X Z (pc + 1) L (.long x.toInt64 :: st) M) : EW Y g X Z pc L (.int x :: st) M :=
  ew_op k (fun _ _ h => ⟨trivial, h.2⟩) (fun ok ad H locs cells slots ls _ K => lv_i2l ok.1 ok.2.1 hd rfl K)
theorem ew_l2i {x : Int64} (hd : decode Y.2.1 pc = .ok (.l2i, 1)) (k : EW Y g X Z (pc + 1) L (.int x.toInt32 :: st) M) : EW Y g X Z pc L (.long x :: st) M :=
  ew_op k (fun _ _ h => ⟨trivial, h.2⟩) (fun ok ad H locs cells slots ls _ K => lv_l2i ok.1 ok.2.1 hd rfl K)
theorem ew_lcmp {x y : Int64} (hd : decode Y.2.1 pc = .ok (.lcmp, 1)) (k : EW Y g X Z (pc + 1) L (.int (lg_cmp x y) :: st) M) : EW Y g X Z pc L (.long y :: .long x :: st) M :=
  ew_op k (fun _ _ h => ⟨trivial, h.2.2⟩) (fun ok ad H locs cells slots ls _ K => W.lcmp ok.1 ok.2.1 hd K)
theorem ew_dup {v : Value} (hd : decode Y.2.1 pc = .ok (.dup, 1)) (hc : v.category = 1) (k : EW Y g X Z (pc + 1) L (v :: v :: st) M) : EW Y g X Z pc L (v :: st) M :=
  ew_op k (fun _ _ h => ⟨h.1, h⟩) (fun ok ad H locs cells slots ls _ K => lv_dup ok.1 ok.2.1 hd (by rw [rV_cat]; exact hc) K)
theorem ew_pop {v : Value} (hd : decode Y.2.1 pc = .ok (.pop, 1)) (hc : v.category = 1) (k : EW Y g X Z (pc + 1) L st M) : EW Y g X Z pc L (v :: st) M :=
  ew_op k (fun _ _ h => h.2) (fun ok ad H locs cells slots ls _ K => lv_pop ok.1 ok.2.1 hd (by rw [rV_cat]; exact hc) K)
theorem ew_dup_x1 {v u : Value} (hd : decode Y.2.1 pc = .ok (.dup_x1, 1)) (hc : v.category = 1) (hu : u.category = 1) (k : EW Y g X Z (pc + 1) L (v :: u :: v :: st) M) : EW Y g X Z pc L (v :: u :: st) M :=
  ew_op k (fun _ _ h => ⟨h.1, h.2.1, h.1, h.2.2⟩) (fun ok ad H locs cells slots ls _ K => lv_dup_x1 ok.1 ok.2.1 hd (by rw [rV_cat]; exact hc) (by rw [rV_cat]; exact hu) K)
theorem ew_dup2 {v u : Value} (hd : decode Y.2.1 pc = .ok (.dup2, 1)) (hc : v.category = 1) (hu : u.category = 1) (k : EW Y g X Z (pc + 1) L (v :: u :: v :: u :: st) M) : EW Y g X Z pc L (v :: u :: st) M :=
  ew_op k (fun _ _ h => ⟨h.1, h.2.1, h⟩) (fun ok ad H locs cells slots ls _ K => lv_dup2_11 ok.1 ok.2.1 hd (by rw [rV_cat]; exact hc) (by rw [rV_cat]; exact hu) K)
theorem ew_goto {off : Int} (tgt : Nat) (hd : decode Y.2.1 pc = .ok (.goto off, 3)) (ht : (pc : Int) + off = (tgt : Int)) (k : EW Y g X Z tgt L st M) : EW Y g X Z pc L st M :=
  ew_op k (fun _ _ h => h) (fun ok ad H locs cells slots ls _ K => lv_goto ok.1 ok.2.1 hd ht K)
theorem ew_if_eq {x : Int32} {off : Int} (tgt : Nat) (hd : decode Y.2.1 pc = .ok (.ifCond .eq off, 3)) (ht : (pc : Int) + off = (tgt : Int)) (kt : x = 0 → EW Y g X Z tgt L st M) (kf : ¬ x = 0 → EW Y g X Z (pc + 3) L st M) : EW Y g X Z pc L (.int x :: st) M :=
  ew_br (c := x = 0) kt kf (fun h => h.2) (fun ok ad H locs cells slots ls Kt Kf => lv_if_eq ok.1 ok.2.1 hd ht Kt Kf)
theorem ew_icmp_eq {x y : Int32} {off : Int} (tgt : Nat) (hd : decode Y.2.1 pc = .ok (.if_icmp .eq off, 3)) (ht : (pc : Int) + off = (tgt : Int)) (kt : x = y → EW Y g X Z tgt L st M) (kf : ¬ x = y → EW Y g X Z (pc + 3) L st M) : EW Y g X Z pc L (.int y :: .int x :: st) M :=
  ew_br (c := x = y) kt kf (fun h => h.2.2) (fun ok ad H locs cells slots ls Kt Kf => lv_icmp_eq ok.1 ok.2.1 hd ht Kt Kf)
theorem ew_if_ne {x : Int32} {off : Int} (tgt : Nat) (hd : decode Y.2.1 pc = .ok (.ifCond .ne off, 3)) (ht : (pc : Int) + off = (tgt : Int)) (kt : ¬ x = 0 → EW Y g X Z tgt L st M) (kf : x = 0 → EW Y g X Z (pc + 3) L st M) : EW Y g X Z pc L (.int x :: st) M :=
  ew_br (c := x = 0) kf kt (fun h => h.2) (fun ok ad H locs cells slots ls Kf Kt => lv_if_ne ok.1 ok.2.1 hd ht Kt Kf)
theorem ew_icmp_ne {x y : Int32} {off : Int} (tgt : Nat) (hd : decode Y.2.1 pc = .ok (.if_icmp .ne off, 3)) (ht : (pc : Int) + off = (tgt : Int)) (kt : ¬ x = y → EW Y g X Z tgt L st M) (kf : x = y → EW Y g X Z (pc + 3) L st M) : EW Y g X Z pc L (.int y :: .int x :: st) M :=
  ew_br (c := x = y) kf kt (fun h => h.2.2) (fun ok ad H locs cells slots ls Kf Kt => lv_icmp_ne ok.1 ok.2.1 hd ht Kt Kf)
theorem ew_if_lt {x : Int32} {off : Int} (tgt : Nat) (hd : decode Y.2.1 pc = .ok (.ifCond .lt off, 3)) (ht : (pc : Int) + off = (tgt : Int)) (kt : x < 0 → EW Y g X Z tgt L st M) (kf : ¬ x < 0 → EW Y g X Z (pc + 3) L st M) : EW Y g X Z pc L (.int x :: st) M :=
  ew_br (c := x < 0) kt kf (fun h => h.2) (fun ok ad H locs cells slots ls Kt Kf => lv_if_lt ok.1 ok.2.1 hd ht Kt Kf)
theorem ew_icmp_lt {x y : Int32} {off : Int} (tgt : Nat) (hd : decode Y.2.1 pc = .ok (.if_icmp .lt off, 3)) (ht : (pc : Int) + off = (tgt : Int)) (kt : x < y → EW Y g X Z tgt L st M) (kf : ¬ x < y → EW Y g X Z (pc + 3) L st M) : EW Y g X Z pc L (.int y :: .int x :: st) M :=
  ew_br (c := x < y) kt kf (fun h => h.2.2) (fun ok ad H locs cells slots ls Kt Kf => lv_icmp_lt ok.1 ok.2.1 hd ht Kt Kf)
theorem ew_if_ge {x : Int32} {off : Int} (tgt : Nat) (hd : decode Y.2.1 pc = .ok (.ifCond .ge off, 3)) (ht : (pc : Int) + off = (tgt : Int)) (kt : 0 ≤ x → EW Y g X Z tgt L st M) (kf : ¬ 0 ≤ x → EW Y g X Z (pc + 3) L st M) : EW Y g X Z pc L (.int x :: st) M :=
  ew_br (c := 0 ≤ x) kt kf (fun h => h.2) (fun ok ad H locs cells slots ls Kt Kf => lv_if_ge ok.1 ok.2.1 hd ht Kt Kf)
theorem ew_icmp_ge {x y : Int32} {off : Int} (tgt : Nat) (hd : decode Y.2.1 pc = .ok (.if_icmp .ge off, 3)) (ht : (pc : Int) + off = (tgt : Int)) (kt : y ≤ x → EW Y g X Z tgt L st M) (kf : ¬ y ≤ x → EW Y g X Z (pc + 3) L st M) : EW Y g X Z pc L (.int y :: .int x :: st) M :=
  ew_br (c := y ≤ x) kt kf (fun h => h.2.2) (fun ok ad H locs cells slots ls Kt Kf => lv_icmp_ge ok.1 ok.2.1 hd ht Kt Kf)
theorem ew_if_gt {x : Int32} {off : Int} (tgt : Nat) (hd : decode Y.2.1 pc = .ok (.ifCond .gt off, 3)) (ht : (pc : Int) + off = (tgt : Int)) (kt : 0 < x → EW Y g X Z tgt L st M) (kf : ¬ 0 < x → EW Y g X Z (pc + 3) L st M) : EW Y g X Z pc L (.int x :: st) M :=
  ew_br (c := 0 < x) kt kf (fun h => h.2) (fun ok ad H locs cells slots ls Kt Kf => lv_if_gt ok.1 ok.2.1 hd ht Kt Kf)
theorem ew_icmp_gt {x y : Int32} {off : Int} (tgt : Nat) (hd : decode Y.2.1 pc = .ok (.if_icmp .gt off, 3)) (ht : (pc : Int) + off = (tgt : Int)) (kt : y < x → EW Y g X Z tgt L st M) (kf : ¬ y < x → EW Y g X Z (pc + 3) L st M) : EW Y g X Z pc L (.int y :: .int x :: st) M :=
  ew_br (c := y < x) kt kf (fun h => h.2.2) (fun ok ad H locs cells slots ls Kt Kf => lv_icmp_gt ok.1 ok.2.1 hd ht Kt Kf)
theorem ew_if_le {x : Int32} {off : Int} (tgt : Nat) (hd : decode Y.2.1 pc = .ok (.ifCond .le off, 3)) (ht : (pc : Int) + off = (tgt : Int)) (kt : x ≤ 0 → EW Y g X Z tgt L st M) (kf : ¬ x ≤ 0 → EW Y g X Z (pc + 3) L st M) : EW Y g X Z pc L (.int x :: st) M :=
  ew_br (c := x ≤ 0) kt kf (fun h => h.2) (fun ok ad H locs cells slots ls Kt Kf => lv_if_le ok.1 ok.2.1 hd ht Kt Kf)
theorem ew_icmp_le {x y : Int32} {off : Int} (tgt : Nat) (hd : decode Y.2.1 pc = .ok (.if_icmp .le off, 3)) (ht : (pc : Int) + off = (tgt : Int)) (kt : x ≤ y → EW Y g X Z tgt L st M) (kf : ¬ x ≤ y → EW Y g X Z (pc + 3) L st M) : EW Y g X Z pc L (.int y :: .int x :: st) M :=
  ew_br (c := x ≤ y) kt kf (fun h => h.2.2) (fun ok ad H locs cells slots ls Kt Kf => lv_icmp_le ok.1 ok.2.1 hd ht Kt Kf)
theorem ew_swOut {dflt lo hi : Int} {offs : Array Int} {len : Nat} {x : Int32} (tgt : Nat) (hd : decode Y.2.1 pc = .ok (.tableswitch dflt lo hi offs, len)) (h : x.toInt < lo ∨ hi < x.toInt) (ht : (pc : Int) + dflt = (tgt : Int)) (k : EW Y g X Z tgt L st M) : EW Y g X Z pc L (.int x :: st) M :=
  ew_op k (fun _ _ h => h.2) (fun ok ad H locs cells slots ls _ K => lv_tableOut ok.1 ok.2.1 hd h ht K)
theorem ew_swIn {dflt lo hi : Int} {offs : Array Int} {len : Nat} {x : Int32} {off : Int} (tgt : Nat) (hd : decode Y.2.1 pc = .ok (.tableswitch dflt lo hi offs, len)) (h1 : ¬ x.toInt < lo) (h2 : ¬ hi < x.toInt) (ho : offs[(x.toInt - lo).toNat]? = some off) (ht : (pc : Int) + off = (tgt : Int)) (k : EW Y g X Z tgt L st M) : EW Y g X Z pc L (.int x :: st) M :=
  ew_op k (fun _ _ h => h.2) (fun ok ad H locs cells slots ls _ K => lv_tableIn ok.1 ok.2.1 hd h1 h2 ho ht K)
end EWR
