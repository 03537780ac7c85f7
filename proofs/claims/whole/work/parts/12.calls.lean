/-! THE PURE MACHINE: constants, the script, the table of columns, copies, throws -/
theorem qF.code {g : qG} {U : State} {H : Heap} (h : qF g U H) {Y : qY} (hY : Y ∈ qMs) (a : Array Value) : (Cond.code Y.1 Y.2.1 Y.2.2.1 Y.2.2.2).before a U = true := word_at (State.WarmedH.refl U) (Or.inl rfl) (h.2.2.2.1.1 _ (qMs_in Y hY) rfl)
/-! THE PURE MACHINE: calls -/
def qCb (Y' : qY) (n : Nat) : Prop := Y' ∈ qMs ∧ Cond.initialized Y'.1.cls ∈ qTT ∧ Y'.1.cls ≠ "java/lang/invoke/MethodHandle" ∧ Y'.1.cls ≠ "java/lang/invoke/VarHandle" ∧ (parseMethodDescriptor Y'.1.desc).map (fun d => d.parameters.length) = some n
def qCv (own : String) (ix ci : Nat) (Y' : qY) (n : Nat) : Prop := qCb Y' n ∧ (∃ (T : u_T) (N : Nat), qCl[ci]? = some (Y'.1.cls, T, N)) ∧ Cond.instanceMethod Y'.1 ∈ qTT ∧ Cond.selects Y'.1.cls Y'.1 Y'.1 ∈ qTT ∧ ((Cond.methodLink own ix Y'.1 ∈ qTT) ∨ ∃ host, Cond.methodLinkNest own ix Y'.1 host ∈ qNN)
def qCs (own : String) (ix : Nat) (Y' : qY) (n : Nat) : Prop := qCb Y' n ∧ Cond.static Y'.1 ∈ qTT ∧ ((Cond.methodLink own ix Y'.1 ∈ qTT) ∨ ∃ host, Cond.methodLinkNest own ix Y'.1 host ∈ qNN)
def qCi (own : String) (ix : Nat) (Y' : qY) (n : Nat) : Prop := qCb Y' n ∧ Y'.1.name = "<init>" ∧ Y'.2.2.2 = none ∧ Cond.instanceMethod Y'.1 ∈ qTT ∧ Cond.methodLink own ix Y'.1 ∈ qTT
theorem wfS_app {n : Nat} : ∀ {a b : List Value}, wfS n a → wfS n b → wfS n (a ++ b) := by
  intro a
  induction a with
  | nil => exact fun _ h => h
  | cons v t ih => exact fun h h2 => ⟨h.1, ih h.2 h2⟩
theorem wfS_mem {n : Nat} : ∀ {a : List Value}, wfS n a ↔ ∀ v ∈ a, wfV n v := by
  intro a
  induction a with
  | nil => exact ⟨fun _ v hv => (by cases hv), fun _ => trivial⟩
  | cons v t ih =>
    constructor
    · intro h u hu
      rcases List.mem_cons.mp hu with e | e
      · rw [e]; exact h.1
      · exact ih.mp h.2 u e
    · intro h
      exact ⟨h v List.mem_cons_self, ih.mpr fun u hu => h u (List.mem_cons_of_mem _ hu)⟩
theorem wfS_rev {n : Nat} {a b : List Value} (h : wfS n (a.reverse ++ b)) : wfS n a ∧ wfS n b :=
  ⟨wfS_mem.mpr fun v hv => wfS_mem.mp h v (List.mem_append_left _ (List.mem_reverse.mpr hv)), wfS_mem.mpr fun v hv => wfS_mem.mp h v (List.mem_append_right _ hv)⟩
theorem rS_cat (g : qG) (ad : Nat → Nat) (st : List Value) : ((st.map (rV g ad)).map fun v => v.category).sum = (st.map fun v => v.category).sum := by
  rw [List.map_map]
  congr 1
  apply List.map_congr_left
  intro v _
  exact rV_cat g ad v
def qPo (g : qG) (ad0 : Nat → Nat) (M0 : PM) (res : Option Value ⊕ String) (Mf : PM) : Array Value → State → Outcome → State → Prop := fun _ st o t =>
  (∃ (v : Option Value) (ad : Nat → Nat), res = .inl v ∧ o = .returned (v.map (rV g ad)) ∧ (∀ k, k < mS M0 → ad k = ad0 k) ∧ qR g ad Mf t.heap ∧ wfM Mf ∧ wfS (mS Mf) v.toList) ∧ va_F (qA g) st t
theorem CT_met {Y : qY} {fr lo : Nat} {As : List Value} {M Mf : PM} {v : Option Value} (h : CT Y fr lo As M (.inl v) Mf) {l : Launch} (g : qG) (ad : Nat → Nat) (hst : l.stackTraces = false) (hw : wfM M) (hA : wfS (mS M) As) :
    Met l Y.1 [Cond.code Y.1 Y.2.1 Y.2.2.1 Y.2.2.2] { frames := fr, cells := mC Mf - mC M, slots := mT Mf - mT M, locals := lo } (va_Pc (As.map (rV g ad)) (fun U => g.1 ≤ U.heap.size ∧ qF g U U.heap ∧ qR g ad M U.heap)) (qPo g ad M (.inl v) Mf) (mC Mf - mC M) (mT Mf - mT M) (qA g) := by
  refine MetFree.mono (h.2 l g ad hst hw hA) (fun _ _ h => h) (fun _ _ _ _ _ h => h) ?_
  intro a s o s' _ hq
  rcases hq with ⟨h1, h2, h3⟩ | ⟨E, q, ce, L, ad', hr, -⟩
  · exact ⟨⟨h1, h2⟩, h3⟩
  · cases hr
section EWC
variable {Y : qY} {g : qG} {X : qX} {Z : qZ} {pc : Nat} {L L' : List (Nat × Value)} {st : List Value} {M : PM}
theorem ew_back {M' : PM} {v : Option Value} {a : Array Value} {stk : List Value} {ad : Nat → Nat} {H : Heap} {locs : List Loc} {cells slots : Nat} {ls : Array Slot}
    (hr : va_Run (xp X) (xl X) (xe X) (xR X) (xs X) (xm X) (xa X) (xb X) (xh X) (xc X) H locs cells slots (mC M' - mC M) (mT M' - mT M) (F0 (xm X) pc ls stk) (st.map (rV g ad)) (qPo g ad M (.inl v) M' a) (qA g))
    (ok : qOk Y g X Z) (I : qIn Y g X Z L M ad H locs cells slots ls) (hs : wfS (mS M) st) (hle : mC M ≤ mC M' ∧ mT M ≤ mT M' ∧ mS M ≤ mS M') (k : EW Y g X Z (pc + 3) L (v.toList ++ st) M') : qW g X Z H locs cells slots (F0 (xm X) pc ls stk) := by
  intro T hT X0
  obtain ⟨v', st₀, t, T', Lc, h0, X', hL, e1, e2, hq, go⟩ := hr T hT X0
  obtain ⟨⟨v1, ad1, hr1, ho, hag, hR1, hw1, hv1⟩, hFz, hFk⟩ := hq
  cases Sum.inl.inj hr1
  cases ho
  rw [h0] at hFz hFk
  have c1 := I.2.2.2.2.2.2.1
  have c2 := I.2.2.2.2.2.2.2
  have S := I.2.2.2.2.1
  have K := k.2 ok ad1 T'.heap (locs ++ Lc) (cells + (mC M' - mC M)) (slots + (mT M' - mT M)) ls
    ⟨⟨Nat.le_trans I.1.1 hle.2.2, fun j hj => (hag j (Nat.lt_of_lt_of_le hj I.1.1)).trans (I.1.2 j hj)⟩, by rw [e1]; exact hR1, hw1, wfL_mono hle.2.2 I.2.2.2.1,
      ⟨Nat.le_trans S.1 (by rw [e1]; exact hFz), fun q h1 h2 => by rw [e1, hFk q (Nat.lt_of_lt_of_le h1 S.1) h2]; exact S.2.1 q h1 h2, fun q hq => (List.mem_append.mp hq).elim (S.2.2 q) (hL q)⟩,
      by rw [rL_ext hag I.2.2.2.1]; exact I.2.2.2.2.2.1, by omega, by omega⟩ (wfS_app hv1 (wfS_mono hle.2.2 hs))
  have e9 : (v.toList ++ st).map (rV g ad1) = (v.map (rV g ad1)).toList ++ st.map (rV g ad) := by
    rw [List.map_append, rS_ext hag hs]
    cases v <;> rfl
  rw [e9] at K
  obtain ⟨t2, a1, b1⟩ := K T' rfl X'
  exact ⟨t2, go t2 a1, b1⟩
theorem qPre_blind {As : List Value} {ad : Nat → Nat} {M0 : PM} : FrameBlind (va_Pc (As.map (rV g ad)) (fun U => g.1 ≤ U.heap.size ∧ qF g U U.heap ∧ qR g ad M0 U.heap)) :=
  fun a U g' mk q => ⟨q.1, q.2.1, qF.moved (s := U) (U := U.calling g' mk a) (State.WarmedH.refl U) q.2.2.1, q.2.2.2⟩
theorem qPre_at {As : List Value} {ad : Nat → Nat} {H : Heap} {locs : List Loc} {cells slots : Nat} {ls : Array Slot} (ok : qOk Y g X Z) (I : qIn Y g X Z L M ad H locs cells slots ls) : ∀ U : State, U.heap = H → (xs X).WarmedH U.vm → va_Pc (As.map (rV g ad)) (fun U => g.1 ≤ U.heap.size ∧ qF g U U.heap ∧ qR g ad M U.heap) (As.map (rV g ad)).toArray U := by
  intro U hU hW
  obtain ⟨hx, hb, hml, hown, hr, hlk, hEx, hnm, hst, hF, hg0, -⟩ := id ok
  refine ⟨rfl, by rw [hU]; exact Nat.le_trans hg0 I.2.2.2.2.1.1, ?_, by rw [hU]; exact I.2.1⟩
  rw [hU]
  exact (qF.kept hF (fun a h1 h2 => I.2.2.2.2.1.2.1 a h1 h2)).moved hW
theorem qCb_at {Y' : qY} {n ix fr' lo' : Nat} {M' : PM} (hc : qCb Y' n) (ok : qOk Y g X Z) (hfr : fr' + 1 ≤ zn Z) (hlo : 8 + (Y'.2.2.1 + 11) + lo' ≤ zl Z) (hl : (Cond.methodLink Y.1.cls ix Y'.1).before (xa X) (xs X) = true) :
    CallB (xR X) (xs X) (xa X) Y.1.cls ix Y'.1 Y'.2.1 Y'.2.2.1 Y'.2.2.2 [Cond.code Y'.1 Y'.2.1 Y'.2.2.1 Y'.2.2.2] { frames := fr', cells := mC M' - mC M, slots := mT M' - mT M, locals := lo' } (mC M' - mC M) (mT M' - mT M) n := by
  obtain ⟨hx, hb, hml, hown, hr, hlk, hEx, hnm, hst, hF, hg0, hfr0, hlo0, -⟩ := id ok
  obtain ⟨hm, hini, h1, h2, h3⟩ := hc
  refine ⟨rfl, rfl, Nat.le_trans hfr hfr0, Nat.le_trans hlo hlo0, fun w hw a' U hW => ?_, List.mem_singleton.mpr rfl, qF.code hF hm _, hF.word hini _, ⟨h1, h2⟩, fun sig h => ?_, hl⟩
  · rw [List.mem_singleton.mp hw]
    exact word_at hW (Or.inl rfl) (qF.code hF hm #[])
  · rw [h] at h3
    exact (Option.some.inj h3).symm
theorem qCn_at {Y' : qY} {n ix fr' lo' : Nat} {host : String} {M' : PM} (hc : qCb Y' n) (ok : qOk Y g X Z) (hfr : fr' + 1 ≤ zn Z) (hlo : 8 + (Y'.2.2.1 + 11) + lo' ≤ zl Z) (hl : va_Nw (.methodLinkNest Y.1.cls ix Y'.1 host) (xs X)) :
    va_CN (xR X) (xs X) (xa X) Y.1.cls ix Y'.1 host Y'.2.1 Y'.2.2.1 Y'.2.2.2 [Cond.code Y'.1 Y'.2.1 Y'.2.2.1 Y'.2.2.2] { frames := fr', cells := mC M' - mC M, slots := mT M' - mT M, locals := lo' } (mC M' - mC M) (mT M' - mT M) n := by
  obtain ⟨hx, hb, hml, hown, hr, hlk, hEx, hnm, hst, hF, hg0, hfr0, hlo0, -⟩ := id ok
  obtain ⟨hm, hini, h1, h2, h3⟩ := hc
  refine ⟨⟨rfl, rfl, Nat.le_trans hfr hfr0, Nat.le_trans hlo hlo0, fun w hw a' U hW => ?_, List.mem_singleton.mpr rfl⟩, qF.code hF hm _, hF.word hini _, ⟨h1, h2⟩, fun sig h => ?_, va_Nw.use rfl hl⟩
  · rw [List.mem_singleton.mp hw]
    exact word_at hW (Or.inl rfl) (qF.code hF hm #[])
  · rw [h] at h3
    exact (Option.some.inj h3).symm
theorem ew_callV {Y' : qY} {ix b fr' lo' : Nat} {v : Option Value} {M' : PM} {stk stk' : List Value} (ci : Nat) (As : List Value) (hd : decode Y.2.1 pc = .ok (.invokevirtual ix, 3)) (hc : qCv Y.1.cls ix ci Y' As.length) (ht : CT Y' fr' lo' (.ref b :: As) M (.inl v) M') (hk : mK M b = ci + 3) (hfr : fr' + 1 ≤ zn Z) (hlo : 8 + (Y'.2.2.1 + 11) + lo' ≤ zl Z) (h8 : (st.map fun v => v.category).sum ≤ 8) (hstk : As.reverse ++ .ref b :: st = stk) (hstk' : v.toList ++ st = stk') (k : EW Y g X Z (pc + 3) L stk' M') : EW Y g X Z pc L stk M := by
  subst hstk; subst hstk'
  refine ⟨⟨Nat.le_trans (ht.1 g X).1 k.1.1, Nat.le_trans (ht.1 g X).2.1 k.1.2.1, Nat.le_trans (ht.1 g X).2.2 k.1.2.2⟩, fun ok ad H locs cells slots ls I hs => ?_⟩
  obtain ⟨hx, hb, hml, hown, hr, hlk, hEx, hnm, hst, hF, hg0, hfr0, hlo0, hRc, hRs⟩ := id ok
  obtain ⟨hcb, ⟨T9, N9, hcl⟩, hin, hsel, hlink⟩ := hc
  obtain ⟨w1, w2⟩ := wfS_rev hs
  have c1 := I.2.2.2.2.2.2.1
  have c2 := I.2.2.2.2.2.2.2
  have d1 := ht.1 g X
  have d2 := k.1
  have hM := CT_met ht (l := xl X) g ad hst I.2.2.1 ⟨w2.1, w1⟩
  have he : (rW g ad M)[b]? = some (ad b, .inr (ci, (List.range (qNf ci)).map (fun j => rV g ad (mF M b j)))) := by rw [rW_get w2.1, rE_3 hk]
  have hp : PreV (xs X) H Y'.1.cls (ad b) (va_Pc ((Value.ref b :: As).map (rV g ad)) (fun U => g.1 ≤ U.heap.size ∧ qF g U U.heap ∧ qR g ad M U.heap)) (As.map (rV g ad)) :=
    ⟨qPre_blind, va_recv hF.2.2.1 I.2.1.1 hcl he, qPre_at (As := Value.ref b :: As) ok I⟩
  have hstack : (F0 (xm X) pc ls ((As.reverse ++ Value.ref b :: st).map (rV g ad))).stack = (As.map (rV g ad)).reverse ++ .ref (ad b) :: st.map (rV g ad) := by
    show (As.reverse ++ Value.ref b :: st).map (rV g ad) = _
    rw [List.map_append, List.map_reverse]
    rfl
  rcases hlink with hl | ⟨host, hl⟩
  · exact ew_back (va_runV (Ts := []) ⟨hx, hb, hml, hown, fun _ h => (by cases h)⟩ hM ⟨qCb_at hcb ok hfr hlo (hF.word hl _), hF.word hin _, hF.word hsel _⟩ hp rfl (List.length_map _) I.2.2.2.2.2.1.1 hstack (lv_room (by rw [rS_cat]; exact h8)) hd ⟨by omega, by omega⟩) ok I w2.2 (ht.1 g X) k
  · exact ew_back (va_runVN (Ts := []) ⟨hx, hb, hml, hown, fun _ h => (by cases h)⟩ hM ⟨qCn_at hcb ok hfr hlo (hF.2.1 _ hl), hF.word hin _, hF.word hsel _⟩ hp rfl (List.length_map _) I.2.2.2.2.2.1.1 hstack (lv_room (by rw [rS_cat]; exact h8)) hd ⟨by omega, by omega⟩) ok I w2.2 (ht.1 g X) k
theorem ew_callS {Y' : qY} {ix fr' lo' : Nat} {v : Option Value} {M' : PM} {stk stk' : List Value} (As : List Value) (hd : decode Y.2.1 pc = .ok (.invokestatic ix, 3)) (hc : qCs Y.1.cls ix Y' As.length) (ht : CT Y' fr' lo' As M (.inl v) M') (hfr : fr' + 1 ≤ zn Z) (hlo : 8 + (Y'.2.2.1 + 11) + lo' ≤ zl Z) (h8 : (st.map fun v => v.category).sum ≤ 8) (hstk : As.reverse ++ st = stk) (hstk' : v.toList ++ st = stk') (k : EW Y g X Z (pc + 3) L stk' M') : EW Y g X Z pc L stk M := by
  subst hstk; subst hstk'
  refine ⟨⟨Nat.le_trans (ht.1 g X).1 k.1.1, Nat.le_trans (ht.1 g X).2.1 k.1.2.1, Nat.le_trans (ht.1 g X).2.2 k.1.2.2⟩, fun ok ad H locs cells slots ls I hs => ?_⟩
  obtain ⟨hx, hb, hml, hown, hr, hlk, hEx, hnm, hst, hF, hg0, hfr0, hlo0, hRc, hRs⟩ := id ok
  obtain ⟨hcb, hsta, hlink⟩ := hc
  obtain ⟨w1, w2⟩ := wfS_rev hs
  have c1 := I.2.2.2.2.2.2.1
  have c2 := I.2.2.2.2.2.2.2
  have d1 := ht.1 g X
  have d2 := k.1
  have hM := CT_met ht (l := xl X) g ad hst I.2.2.1 w1
  have hp : PreS (xs X) H (va_Pc (As.map (rV g ad)) (fun U => g.1 ≤ U.heap.size ∧ qF g U U.heap ∧ qR g ad M U.heap)) (As.map (rV g ad)) := ⟨qPre_blind, qPre_at ok I⟩
  have hstack : (F0 (xm X) pc ls ((As.reverse ++ st).map (rV g ad))).stack = (As.map (rV g ad)).reverse ++ st.map (rV g ad) := by
    show (As.reverse ++ st).map (rV g ad) = _
    rw [List.map_append, List.map_reverse]
  rcases hlink with hl | ⟨host, hl⟩
  · exact ew_back (va_runS (Ts := []) ⟨hx, hb, hml, hown, fun _ h => (by cases h)⟩ hM ⟨qCb_at hcb ok hfr hlo (hF.word hl _), hF.word hsta _⟩ hp rfl (List.length_map _) I.2.2.2.2.2.1.1 hstack (lv_room (by rw [rS_cat]; exact h8)) hd ⟨by omega, by omega⟩) ok I w2 (ht.1 g X) k
  · exact ew_back (va_runSN (Ts := []) ⟨hx, hb, hml, hown, fun _ h => (by cases h)⟩ hM ⟨qCn_at hcb ok hfr hlo (hF.2.1 _ hl), hF.word hsta _, trivial⟩ hp rfl (List.length_map _) I.2.2.2.2.2.1.1 hstack (lv_room (by rw [rS_cat]; exact h8)) hd ⟨by omega, by omega⟩) ok I w2 (ht.1 g X) k
theorem ew_callI {Y' : qY} {ix b fr' lo' : Nat} {M' : PM} {stk : List Value} (As : List Value) (hd : decode Y.2.1 pc = .ok (.invokespecial ix, 3)) (hc : qCi Y.1.cls ix Y' As.length) (ht : CT Y' fr' lo' (.ref b :: As) M (.inl none) M') (hfr : fr' + 1 ≤ zn Z) (hlo : 8 + (Y'.2.2.1 + 11) + lo' ≤ zl Z) (h8 : (st.map fun v => v.category).sum ≤ 8) (hstk : As.reverse ++ .ref b :: st = stk) (k : EW Y g X Z (pc + 3) L st M') : EW Y g X Z pc L stk M := by
  subst hstk
  refine ⟨⟨Nat.le_trans (ht.1 g X).1 k.1.1, Nat.le_trans (ht.1 g X).2.1 k.1.2.1, Nat.le_trans (ht.1 g X).2.2 k.1.2.2⟩, fun ok ad H locs cells slots ls I hs => ?_⟩
  obtain ⟨hx, hb, hml, hown, hr, hlk, hEx, hnm, hst, hF, hg0, hfr0, hlo0, hRc, hRs⟩ := id ok
  obtain ⟨hcb, hy1, hy2, hin, hl⟩ := hc
  obtain ⟨w1, w2⟩ := wfS_rev hs
  have c1 := I.2.2.2.2.2.2.1
  have c2 := I.2.2.2.2.2.2.2
  have d1 := ht.1 g X
  have d2 := k.1
  have hM := CT_met ht (l := xl X) g ad hst I.2.2.1 ⟨w2.1, w1⟩
  have hp : PreS (xs X) H (va_Pc ((Value.ref b :: As).map (rV g ad)) (fun U => g.1 ≤ U.heap.size ∧ qF g U U.heap ∧ qR g ad M U.heap)) (.ref (ad b) :: As.map (rV g ad)) := ⟨qPre_blind, qPre_at (As := Value.ref b :: As) ok I⟩
  have hstack : (F0 (xm X) pc ls ((As.reverse ++ Value.ref b :: st).map (rV g ad))).stack = (As.map (rV g ad)).reverse ++ .ref (ad b) :: st.map (rV g ad) := by
    show (As.reverse ++ Value.ref b :: st).map (rV g ad) = _
    rw [List.map_append, List.map_reverse]
    rfl
  have hcb2 := qCb_at (M' := M') (M := M) (lo' := lo') hcb ok hfr hlo (hF.word hl _)
  rw [hy2] at hcb2 hM
  exact ew_back (v := none) (va_runI (Ts := []) ⟨hx, hb, hml, hown, fun _ h => (by cases h)⟩ hM ⟨hcb2, hy1, hF.word hin _⟩ hp rfl (List.length_map _) I.2.2.2.2.2.1.1 hstack (lv_room (by rw [rS_cat]; exact h8)) hd ⟨by omega, by omega⟩) ok I w2.2 (ht.1 g X) k
/-- Object's own constructor -/
theorem ew_objInit {ix a : Nat} (hd : decode Y.2.1 pc = .ok (.invokespecial ix, 3)) (hl : Cond.methodLink Y.1.cls ix objectInit ∈ qTT) (hfr : 1 ≤ zn Z) (hlo : (st.map fun v => v.category).sum + 12 ≤ zl Z) (k : EW Y g X Z (pc + 3) L st M) : EW Y g X Z pc L (.ref a :: st) M := by
  refine ⟨k.1, fun ok ad H locs cells slots ls I hs => ?_⟩
  obtain ⟨hx, hb, hml, hown, hr, hlk, hEx, hnm, hst, hF, hg0, hfr0, hlo0, hRc, hRs⟩ := id ok
  exact W.objInit hx hb hown (hF.word hl _) (hF.word qOb _) (qF.code hF qObC _) rfl (I.2.2.2.2.2.1.1.trans hml.symm) rfl hd (Nat.le_trans hfr hfr0) (by rw [rS_cat]; show 2 * 0 + _ + 12 ≤ _; omega) (k.2 ok ad H locs cells slots ls I hs.2)
end EWC
