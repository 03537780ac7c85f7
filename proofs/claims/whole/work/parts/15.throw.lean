/-! THE PURE MACHINE: methods that throw -/
section QX
variable {p : Program} {l : Launch} {e : Env} {R : Room} {s : State} {m : MethodId} {args : Array Value} {below : List Frame} {meth : Method} {c : Code} {U : State} {locs : List Loc} {cells slots : Nat}
/-- a callee by its contract, from the invocation on: it comes back with an answer, or with a throw over the caller's frame -/
theorem qx_go (X : Stand p l e R s m args below meth c U locs cells slots) {y : MethodName} {ws : List Cond} {rm : Room} {P : Array Value → State → Prop} {g0 : qG} {ad : Nat → Nat} {M M' : PM} {res : Option Value ⊕ String} {a : Array Value}
    (hM : MetFree l y (headSpec ws rm) P (fun _ _ _ _ _ => True) (fun _ st o t => qEd g0 ad M res M' st o t))
    (hfr : rm.frames + 1 ≤ R.frames) {maxL : Nat} (hlo : 8 + (maxL + 11) + rm.locals ≤ R.locals) (h4 : cells + rm.cells ≤ R.cells) (h5 : slots + rm.slots ≤ R.slots) (h1 : ∀ w ∈ ws, w.before a U = true)
    {g : JFrame} (hg : g.method = m) (hsize : g.locals.size = c.maxLocals) {ig : Instr} (hdg : decode c.code g.pc = .ok (ig, 3)) (hW : 2 * g.monitorRoom + (g.stack.map fun v => v.category).sum ≤ 8)
    {mk : MethodId} (hn : U.methodNamed? y = some mk) {methY : Method} {cY : Code} (hmY : U.vm.method? mk = some methY) (hcY : methY.code = some cY) (hlY : cY.maxLocals = maxL) (h3 : (Cond.initialized y.cls).before a U = true) (hP : P a (U.calling g mk a)) :
    ∃ (t U' : State) (L : List Loc), U'.heap = t.heap ∧ U'.vm = t.vm ∧ Stand p l e R s m args below meth c U' (locs ++ L) (cells + (mC M' - mC M)) (slots + (mT M' - mT M)) ∧ (∀ z ∈ L, qA g0 z.base) ∧
      ((∃ v, qEd g0 ad M res M' (U.calling g mk a) (.returned v) t ∧ Steps p.tables e below (doInvoke e (U.setTop g) [] mk a).1 (U'.setTop { g with pc := g.pc + 3, stack := v.toList ++ g.stack })) ∨
       (∃ q, qEd g0 ad M res M' (U.calling g mk a) (.threw q) t ∧ Steps p.tables e below (doInvoke e (U.setTop g) [] mk a).1 ((U'.setTop g).pushFrame (.throwing q)))) := by
  have hat : At U g.method c below := by rw [hg]; exact X.here
  obtain ⟨kY, hkY, -⟩ := className_of_methodNamed hn
  have hroom := X.room_calling (g := g) (R' := (headSpec ws rm).room) (args' := a) hsize hmY hcY hfr (by rw [hlY]; show _ + rm.locals ≤ _; omega) h4 h5
  have happ := Spec.appliesLoose_calling (S := headSpec ws rm) (g := g) hat hdg hn hkY (Cond.initialized_spec (findClass_of_methodNamed hn) hkY h3) hroom (atoms_intro h1)
  obtain ⟨mid, hmid⟩ := hat.above
  have hfs : (U.setTop g).frames = (.java g :: mid) ++ below := by rw [State.frames_setTop' g hat.top, hmid]; rfl
  obtain ⟨o, z, hsteps, -, hend, hq⟩ := Steps.callFree hM p X.admits X.cas X.clock (acts := []) hfs happ hP trivial
  have hq' : qEd g0 ad M res M' (U.calling g mk a) o z := hq
  rw [State.frames_setTop' g hat.top] at hend
  obtain ⟨g₀, hg0⟩ := Option.isSome_iff_exists.mp hat.top
  obtain ⟨r, hr⟩ := State.topJava?_eq_some.mp hg0
  have hr' : (({ U with heap := z.heap, slotsUsed := z.slotsUsed } : State).setVm z.vm).frames = .java g₀ :: r := hr
  -- either way: what the callee's frame leaves
  have key : ∀ L, (U.calling g mk a).WarmedH z.vm → (U.calling g mk a).sameButNew ({ z with vm := (U.calling g mk a).vm } : State) L (mC M' - mC M) (mT M' - mT M) →
      z = ({ (U.calling g mk a).setFrames z.frames with heap := z.heap, slotsUsed := z.slotsUsed } : State).setVm z.vm ∧
      Stand p l e R s m args below meth c (({ U with heap := z.heap, slotsUsed := z.slotsUsed } : State).setVm z.vm) (locs ++ L) (cells + (mC M' - mC M)) (slots + (mT M' - mT M)) := by
    intro L hwm hsm
    obtain ⟨e2, q2, q3, q4, q5, q6⟩ := hsm
    have hW' : U.WarmedH z.vm := hwm
    have hsame : U.sameButNew ({ U with heap := z.heap, slotsUsed := z.slotsUsed } : State) L (mC M' - mC M) (mT M' - mT M) := by
      refine ⟨?_, q2, q3, q4, q5, q6⟩
      obtain ⟨t, ht, -⟩ := State.frames_cons hr
      show ({ U with heap := z.heap, slotsUsed := z.slotsUsed } : State) = { U.setFrames U.frames with heap := z.heap, slotsUsed := z.slotsUsed }
      rw [State.setFrames_self ht]
    refine ⟨?_, ⟨X.admits, X.cas, X.clock, X.frames, X.room, X.hears, X.method, X.code, ?_, X.tail, State.WarmedH.trans X.warmed hW', X.limits, X.bytes, X.same.trans (hsame.setVm s.vm)⟩⟩
    · have : z = ({ z with vm := (U.calling g mk a).vm } : State).setVm z.vm := rfl
      rw [e2] at this
      exact this
    · subst hg
      exact (X.here.setHeapUsed z.heap z.slotsUsed).setVm hW'.alike
  rcases id hq' with ⟨-, -, L, ⟨⟨v, hv⟩, hwm, hsm⟩, hL⟩ | ⟨E, q, ce, L, ad', -, ho, -, -, -, -, -, -, -, hwm, hsm, hL⟩
  · subst hv
    obtain ⟨ez, hS⟩ := key L hwm hsm
    obtain ⟨c₂, i₂, len₂, hc₂, hd₂, hf₂⟩ := hend
    have hW' : U.WarmedH z.vm := hwm
    have hcc : c₂ = c := by
      have h1 : z.code? g.method = U.code? g.method := by rw [State.code?_eq, State.code?_eq, hW'.alike.method?]
      exact Option.some.inj (hc₂.symm.trans (h1.trans hat.code))
    subst hcc
    have hlen : len₂ = 3 := by rw [hdg] at hd₂; cases hd₂; rfl
    subst hlen
    refine ⟨z, ({ U with heap := z.heap, slotsUsed := z.slotsUsed } : State).setVm z.vm, L, rfl, rfl, hS, hL, Or.inl ⟨v, hq', ?_⟩⟩
    have hz : z = (({ U with heap := z.heap, slotsUsed := z.slotsUsed } : State).setVm z.vm).setTop { g with pc := g.pc + 3, stack := v.toList ++ g.stack } := by
      refine ez.trans ?_
      rw [hf₂, State.calling_eq hat.top, State.setFrames_setFrames, State.setTop_of_frames _ hr', hr]
      rfl
    rw [← hz]
    exact hsteps
  · subst ho
    obtain ⟨ez, hS⟩ := key L hwm hsm
    have hf₂ : z.frames = .throwing q :: .java g :: U.frames.tail := hend
    refine ⟨z, ({ U with heap := z.heap, slotsUsed := z.slotsUsed } : State).setVm z.vm, L, rfl, rfl, hS, hL, Or.inr ⟨q, hq', ?_⟩⟩
    have hz : z = ((({ U with heap := z.heap, slotsUsed := z.slotsUsed } : State).setVm z.vm).setTop g).pushFrame (.throwing q) := by
      refine ez.trans ?_
      rw [hf₂, State.calling_eq hat.top, State.setFrames_setFrames, State.pushFrame, State.frames_setTop _ hr', State.setTop_of_frames _ hr', State.setFrames_setFrames, hr]
      rfl
    rw [← hz]
    exact hsteps
end QX
section EWX2
variable {Y : qY} {g : qG} {X : qX} {Z : qZ} {pc : Nat} {L L' : List (Nat × Value)} {st : List Value} {M : PM}
/-- what becomes of a throw over this method's frame: the rest of the walk -/
def qFin (Y : qY) (g : qG) (X : qX) (Z : qZ) (pc : Nat) (L : List (Nat × Value)) (M M' : PM) (E : String) : Prop :=
  (mC M' ≤ mC (zf Z) ∧ mT M' ≤ mT (zf Z) ∧ mS M' ≤ mS (zf Z)) ∧ ∀ (ad ad1 : Nat → Nat) (H : Heap) (locs Lc : List Loc) (cells slots : Nat) (ls : Array Slot) (U' : State) (q : Addr) (ce : Cell) (stk : List Value),
    qOk Y g X Z → qIn Y g X Z L M ad H locs cells slots ls → (mC M ≤ mC M' ∧ mT M ≤ mT M' ∧ mS M ≤ mS M') →
    Stand (xp X) (xl X) (xe X) (xR X) (xs X) (xm X) (xa X) (xb X) (xh X) (xc X) U' (locs ++ Lc) (cells + (mC M' - mC M)) (slots + (mT M' - mT M)) → (∀ z ∈ Lc, qA g z.base) →
    (∀ k, k < mS M → ad1 k = ad k) → qR g ad1 M' U'.heap → wfM M' → H.size ≤ U'.heap.size → (∀ q : Nat, q < H.size → ¬ qA g q → U'.heap[q]? = H[q]?) → U'.heap[q]? = some ce → ce.vm = .none → (xs X).vm.findClass E = some ce.cls →
    ∃ t, Steps (xp X).tables (xe X) (xb X) ((U'.setTop (F0 (xm X) pc ls stk)).pushFrame (.throwing q)) t ∧ ∃ o, t.status = .running ∧ Ended t (xb X) o ∧ qEd g (za Z) (z0 Z) (zr Z) (zf Z) (xs X) o t
theorem qHd_nil {t : List ExceptionTableEntry} (h : t.map (fun h => (h.startPc, h.endPc, h.handlerPc, h.catchType)) = []) : ∀ x ∈ t, False := by
  intro x hx
  rw [List.map_eq_nil_iff.mp h] at hx
  cases hx
/-- nobody here catches it: it is the method's own end -/
theorem ew_leave {E : String} {M' : PM} (h0 : qHd Y = []) (hz : zr Z = .inr E) (hm : zf Z = M') : qFin Y g X Z pc L M M' E := by
  refine ⟨by rw [hm]; exact ⟨Nat.le_refl _, Nat.le_refl _, Nat.le_refl _⟩, fun ad ad1 H locs Lc cells slots ls U' q ce stk ok I hle X' hL hag hR hw hF1 hF2 hce hv hcl => ?_⟩
  obtain ⟨hx, hb, hml, hown, hr, hlk, hEx, hnm, hst, hF, hg0, hfr0, hlo0, hRc, hRs⟩ := id ok
  have c1 := I.2.2.2.2.2.2.1
  have c2 := I.2.2.2.2.2.2.2
  have S := I.2.2.2.2.1
  obtain ⟨st1, hrun, hend, hWm, hsm⟩ := X'.leaveThrown q (g := F0 (xm X) pc ls stk) rfl rfl rfl (fun x hx => (qHd_nil (hEx.trans h0) x hx).elim) hlk
  have hz1 : mC (zf Z) = mC M' := by rw [hm]
  have hz2 : mT (zf Z) = mT M' := by rw [hm]
  refine ⟨_, st1, .threw q, hrun, hend, Or.inr ⟨E, q, ce, locs ++ Lc, ad1, hz, rfl, fun k hk => (hag k (Nat.lt_of_lt_of_le hk I.1.1)).trans (I.1.2 k hk), by rw [hm]; exact hR, by rw [hm]; exact hw, ?_, hce, hv, hcl, hWm, hsm.mono (by omega) (by omega), ?_⟩⟩
  · exact ⟨Nat.le_trans S.1 hF1, fun q h1 h2 => (hF2 q (Nat.lt_of_lt_of_le h1 S.1) h2).trans (S.2.1 q h1 h2)⟩
  · exact fun z hz => (List.mem_append.mp hz).elim (S.2.2 z) (hL z)
/-- at pc the throw of an E is caught by a handler of this method: which, where, and its first instruction, that lays the object by -/
def qCa (Y : qY) (pc : Nat) (E : String) (hp ln : Nat) : Prop := ∃ (pre : List (Nat × Nat × Nat × Nat)) (x : Nat × Nat × Nat × Nat) (rest : List (Nat × Nat × Nat × Nat)),
  qHd Y = pre ++ x :: rest ∧ x.2.2.1 = hp ∧ x.1 ≤ pc ∧ pc < x.2.1 ∧ x.2.2.2 ≠ 0 ∧ Cond.classLink Y.1.cls x.2.2.2 E ∈ lw_tbl ∧ Cond.castable E E ∈ lw_tbl ∧
  (∀ y ∈ pre, y.2.2.2 ≠ 0 ∧ ∃ nm, Cond.classLink Y.1.cls y.2.2.2 nm ∈ lw_tbl ∧ (E, nm) ∈ qNc) ∧
  ((∃ n : Fin 4, decode Y.2.1 hp = .ok (.astore_n n, 1) ∧ (n : Nat) < Y.2.2.1 ∧ ln = 1) ∨ (∃ i : Nat, decode Y.2.1 hp = .ok (.astore i, 2) ∧ i < Y.2.2.1 ∧ ln = 2))
theorem ew_caught {E : String} {M' : PM} {hp ln : Nat} (hct : qCa Y pc E hp ln) (k : EW Y g X Z (hp + ln) [] [] M') : qFin Y g X Z pc L M M' E := by
  refine ⟨k.1, fun ad ad1 H locs Lc cells slots ls U' q ce stk ok I hle X' hL hag hR hw hF1 hF2 hce hv hcl => ?_⟩
  obtain ⟨hx, hb, hml, hown, hr, hlk, hEx, hnm, hst, hF, hg0, hfr0, hlo0, hRc, hRs⟩ := id ok
  obtain ⟨pre, x, rest, h1, h2, h3, h4, h5, h6, h7, h8, h9⟩ := hct
  subst h2
  have c1 := I.2.2.2.2.2.2.1
  have c2 := I.2.2.2.2.2.2.2
  have S := I.2.2.2.2.1
  rw [h1] at hEx
  obtain ⟨preE, restE0, e1, e2, e3⟩ := List.map_eq_append_iff.mp hEx
  obtain ⟨xE, restE, e4, e5, e6⟩ := List.map_eq_cons_iff.mp e3
  subst e4
  have hall : ∀ w ∈ lw_tbl, qGw w = true → w.before (xa X) (xs X) = true := fun w hw hg => qGw_at (State.WarmedH.refl _) hg (hF.2.2.2.1.1 w hw hg)
  have f1 : xE.startPc = x.1 := by rw [← e5]
  have f2 : xE.endPc = x.2.1 := by rw [← e5]
  have f3 : xE.handlerPc = x.2.2.1 := by rw [← e5]
  have f4 : xE.catchType = x.2.2.2 := by rw [← e5]
  have hpl : (xe X).platform.magicAccessors = ({} : Platform).magicAccessors := by rw [X'.admits.platform]
  have hcast : (xs X).vm.assignable ce.cls ce.cls = true := by
    obtain ⟨c9, t9, q1, q2, q3⟩ := Cond.castable_spec (hall _ h7 rfl)
    cases Option.some.inj (hcl.symm.trans q1)
    cases Option.some.inj (hcl.symm.trans q2)
    exact q3
  have hcx : xE.catchType ≠ 0 := by rw [f4]; exact h5
  obtain ⟨hend, hk0⟩ := X'.catches_of_link (own := Y.1.cls) (name := E) hown (x := xE) hcx (by rw [f4]; exact hall _ h6 rfl) (cT := ce.cls) (thrown := ce.cls) hcl hcast
  obtain ⟨vm', XV, hsteps⟩ := X'.thenCaughtThrough q (g := F0 (xm X) pc ls stk) rfl (Steps.refl _) hce (by rw [hv]; rfl) hk0 preE xE restE e1
    (fun y hy => by
      obtain ⟨g1, nm, g2, g3⟩ := h8 _ (by rw [← e2]; exact List.mem_map_of_mem hy)
      obtain ⟨c9, t9, q1, q2, q3⟩ := hF.2.2.2.1.2 _ g3
      obtain ⟨c8, q4, q5⟩ := Cond.classLink_spec hown (hall _ g2 rfl) (xe X).platform hpl
      cases Option.some.inj (hcl.symm.trans q1)
      cases Option.some.inj (q2.symm.trans q4)
      exact Or.inr ⟨g1, t9, q5, q3⟩)
    (by
      have : (decide (xE.startPc ≤ pc) && decide (pc < xE.endPc)) = true := by rw [f1, f2, decide_eq_true h3, decide_eq_true h4]; rfl
      exact this) hend
  have hnil : lv_has ls Y.2.2.1 [] := ⟨I.2.2.2.2.2.1.1, I.2.2.2.2.2.1.2.1, fun q hq => (by cases hq)⟩
  have go : ∀ ls' : Array Slot, lv_has ls' Y.2.2.1 [] → qW g X Z U'.heap (locs ++ Lc) (cells + (mC M' - mC M)) (slots + (mT M' - mT M)) (F0 (xm X) (x.2.2.1 + ln) ls' []) := fun ls' h' =>
    k.2 ok ad1 U'.heap (locs ++ Lc) (cells + (mC M' - mC M)) (slots + (mT M' - mT M)) ls'
      ⟨⟨Nat.le_trans I.1.1 hle.2.2, fun j hj => (hag j (Nat.lt_of_lt_of_le hj I.1.1)).trans (I.1.2 j hj)⟩, hR, hw, fun q hq => (by cases hq),
        ⟨Nat.le_trans S.1 hF1, fun q h1 h2 => (hF2 q (Nat.lt_of_lt_of_le h1 S.1) h2).trans (S.2.1 q h1 h2), fun q hq => (List.mem_append.mp hq).elim (S.2.2 q) (hL q)⟩, h', by omega, by omega⟩ trivial
  have sub : ∀ {ls' : Array Slot} {l9 : List (Nat × Value)}, lv_has ls' Y.2.2.1 l9 → lv_has ls' Y.2.2.1 [] := fun h' => ⟨h'.1, h'.2.1, fun q hq => (by cases hq)⟩
  have K : qW g X Z U'.heap (locs ++ Lc) (cells + (mC M' - mC M)) (slots + (mT M' - mT M)) (F0 (xm X) x.2.2.1 ls [.ref q]) := by
    rcases h9 with ⟨n, dn, hn, hl⟩ | ⟨i, dn, hn, hl⟩
    · subst hl
      exact lv_astore_n hx hb dn rfl hnil hn rfl (fun ls' h' => go ls' (sub h'))
    · subst hl
      exact lv_astore hx hb dn hnil hn rfl (fun ls' h' => go ls' (sub h'))
  obtain ⟨t2, a1, b1⟩ := K (U'.setVm vm') rfl XV
  rw [← f3] at a1
  exact ⟨t2, hsteps.trans a1, b1⟩
theorem ew_callVx {Y' : qY} {ix b fr' lo' : Nat} {E : String} {M' : PM} {stk : List Value} (ci : Nat) (As : List Value) (hd : decode Y.2.1 pc = .ok (.invokevirtual ix, 3)) (hc : qCv Y.1.cls ix ci Y' As.length) (hl9 : Cond.methodLink Y.1.cls ix Y'.1 ∈ qTT) (ht : CT Y' fr' lo' (.ref b :: As) M (.inr E) M') (hk : mK M b = ci + 3) (hfr : fr' + 1 ≤ zn Z) (hlo : 8 + (Y'.2.2.1 + 11) + lo' ≤ zl Z) (h8 : (st.map fun v => v.category).sum ≤ 8) (hstk : As.reverse ++ .ref b :: st = stk) (fin : qFin Y g X Z pc L M M' E) : EW Y g X Z pc L stk M := by
  subst hstk
  refine ⟨⟨Nat.le_trans (ht.1 g X).1 fin.1.1, Nat.le_trans (ht.1 g X).2.1 fin.1.2.1, Nat.le_trans (ht.1 g X).2.2 fin.1.2.2⟩, fun ok ad H locs cells slots ls I hs => ?_⟩
  obtain ⟨hx, hb, hml, hown, hr, hlk, hEx, hnm, hst, hF, hg0, hfr0, hlo0, hRc, hRs⟩ := id ok
  obtain ⟨hcb, ⟨T9, N9, hcl⟩, hin, hsel, -⟩ := hc
  obtain ⟨w1, w2⟩ := wfS_rev hs
  have c1 := I.2.2.2.2.2.2.1
  have c2 := I.2.2.2.2.2.2.2
  have d1 := ht.1 g X
  have hz1 := fin.1
  have hM := ht.2 (xl X) g ad hst I.2.2.1 ⟨w2.1, w1⟩
  have he : (rW g ad M)[b]? = some (ad b, .inr (ci, (List.range (qNf ci)).map (fun j => rV g ad (mF M b j)))) := by rw [rW_get w2.1, rE_3 hk]
  obtain ⟨cellB, hcB, hoB, hclB⟩ := va_recv hF.2.2.1 I.2.1.1 hcl he
  have hcode := qF.code hF hcb.1 (xa X)
  have hyc : Y'.1.cls ≠ "java/lang/invoke/MethodHandle" ∧ Y'.1.cls ≠ "java/lang/invoke/VarHandle" := ⟨hcb.2.2.1, hcb.2.2.2.1⟩
  have hstack : (F0 (xm X) pc ls ((As.reverse ++ Value.ref b :: st).map (rV g ad))).stack = (As.map (rV g ad)).reverse ++ .ref (ad b) :: st.map (rV g ad) := by
    show (As.reverse ++ Value.ref b :: st).map (rV g ad) = _
    rw [List.map_append, List.map_reverse]
    rfl
  intro T hT X0
  obtain ⟨mk, methM, hnamed, hmethM, hstM, habM⟩ := Cond.instanceMethod_spec (hF.word hin (xa X))
  obtain ⟨methM', cM, hmethM', hcM, -, hlM, -, -, -, hsigM⟩ := Cond.code_spec hnamed hcode
  cases hmethM.symm.trans hmethM'
  obtain ⟨c2', r2, m2, q1, q2, q3, q4, kP, hkP, hkPi⟩ := Cond.selects_spec (hF.word hsel (xa X))
  cases hclB.symm.trans q1
  cases (State.methodFound?_of_named hnamed hyc).symm.trans q2
  cases hnamed.symm.trans q3
  have hselP : selectMethod (xe X).platform (xs X).vm cellB.cls mk = .method mk := by rw [Launch.admits_selectMethod X0.admits]; exact q4
  have hlen : (As.map (rV g ad)).length = methM.sig.parameters.length := by
    have h9 := hcb.2.2.2.2
    rw [hsigM] at h9
    rw [List.length_map]
    exact (Option.some.inj h9).symm
  obtain ⟨vm₁, X₁, hstep₁⟩ := X0.invokevirtual hx hown (hF.word hl9 _) hnamed hmethM hstM hkP hkPi hyc (a := ad b) (cell := cellB) (by rw [hT]; exact hcB) (fun z h => by rw [h] at hoB; cases hoB) hselP hmethM habM hkP hkPi (g := F0 (xm X) pc ls ((As.reverse ++ Value.ref b :: st).map (rV g ad))) rfl (argsL := As.map (rV g ad)) (rest := st.map (rV g ad)) hlen hstack (by rw [hb]; exact hd)
  have hPc := qPre_blind (As := Value.ref b :: As) (g := g) (ad := ad) (M0 := M) (a := ((Value.ref b :: As).map (rV g ad)).toArray) (U := T.setVm vm₁) (F0 (xm X) pc ls (st.map (rV g ad))) mk (qPre_at (As := Value.ref b :: As) ok I (T.setVm vm₁) hT X₁.warmed)
  obtain ⟨t, U', Lc, e1, e2, X', hL, hcase⟩ := qx_go X₁ (a := ((Value.ref b :: As).map (rV g ad)).toArray) hM (Nat.le_trans hfr hfr0) (maxL := Y'.2.2.1) (Nat.le_trans hlo hlo0) (by show cells + (mC M' - mC M) ≤ _; omega) (by show slots + (mT M' - mT M) ≤ _; omega)
    (fun w hw => by rw [List.mem_singleton.mp hw]; exact word_at X₁.warmed (Or.inl rfl) hcode) (g := F0 (xm X) pc ls (st.map (rV g ad))) rfl (I.2.2.2.2.2.1.1.trans hml.symm) (by rw [hb]; exact hd) (lv_room (by rw [rS_cat]; exact h8)) (X₁.named hnamed) (by show (T.setVm vm₁).vm.method? mk = _; rw [X₁.warmed.alike.method?]; exact hmethM) hcM hlM (word_at X₁.warmed (good_of_word (qTT_good _ hcb.2.1)) (hF.word hcb.2.1 (xa X))) hPc
  rcases hcase with ⟨v, hq, -⟩ | ⟨q, hq, hsteps⟩
  · rcases hq with ⟨⟨v1, ad1, hr1, -⟩, -⟩ | ⟨E1, q1, ce, L1, ad1, -, ho, -⟩
    · cases hr1
    · cases ho
  · rcases hq with ⟨⟨v1, ad1, hr1, -⟩, -⟩ | ⟨E1, q1, ce, L1, ad1, hE, ho, hag, hR1, hw1, ⟨hFz, hFk⟩, hce, hv, hcl1, -, -, -⟩
    · cases hr1
    · cases Sum.inr.inj hE
      cases ho
      have hFz' : H.size ≤ U'.heap.size := by rw [e1, ← hT]; exact hFz
      have hFk' : ∀ q : Nat, q < H.size → ¬ qA g q → U'.heap[q]? = H[q]? := fun q h1 h2 => by rw [e1, ← hT]; exact hFk q (by show q < T.heap.size; rw [hT]; exact h1) h2
      obtain ⟨t2, a1, b1⟩ := fin.2 ad ad1 H locs Lc cells slots ls U' _ ce (st.map (rV g ad)) ok I d1 X' hL hag (by rw [e1]; exact hR1) hw1 hFz' hFk' (by rw [e1]; exact hce) hv (by have h9 : (T.setVm vm₁).vm.findClass E = some ce.cls := hcl1; rw [X₁.warmed.alike.findClass] at h9; exact h9)
      exact ⟨t2, hstep₁ _ fun acts => by rw [doInvoke_state]; exact hsteps.trans a1, b1⟩
theorem ew_callSx {Y' : qY} {ix fr' lo' : Nat} {E : String} {M' : PM} {stk : List Value} (As : List Value) (hd : decode Y.2.1 pc = .ok (.invokestatic ix, 3)) (hc : qCs Y.1.cls ix Y' As.length) (hl9 : Cond.methodLink Y.1.cls ix Y'.1 ∈ qTT) (ht : CT Y' fr' lo' As M (.inr E) M') (hfr : fr' + 1 ≤ zn Z) (hlo : 8 + (Y'.2.2.1 + 11) + lo' ≤ zl Z) (h8 : (st.map fun v => v.category).sum ≤ 8) (hstk : As.reverse ++ st = stk) (fin : qFin Y g X Z pc L M M' E) : EW Y g X Z pc L stk M := by
  subst hstk
  refine ⟨⟨Nat.le_trans (ht.1 g X).1 fin.1.1, Nat.le_trans (ht.1 g X).2.1 fin.1.2.1, Nat.le_trans (ht.1 g X).2.2 fin.1.2.2⟩, fun ok ad H locs cells slots ls I hs => ?_⟩
  obtain ⟨hx, hb, hml, hown, hr, hlk, hEx, hnm, hst, hF, hg0, hfr0, hlo0, hRc, hRs⟩ := id ok
  obtain ⟨hcb, hsta, -⟩ := hc
  obtain ⟨w1, w2⟩ := wfS_rev hs
  have c1 := I.2.2.2.2.2.2.1
  have c2 := I.2.2.2.2.2.2.2
  have d1 := ht.1 g X
  have hz1 := fin.1
  have hM := ht.2 (xl X) g ad hst I.2.2.1 w1
  have hcode := qF.code hF hcb.1 (xa X)
  have hyc : Y'.1.cls ≠ "java/lang/invoke/MethodHandle" ∧ Y'.1.cls ≠ "java/lang/invoke/VarHandle" := ⟨hcb.2.2.1, hcb.2.2.2.1⟩
  have hstack : (F0 (xm X) pc ls ((As.reverse ++ st).map (rV g ad))).stack = (As.map (rV g ad)).reverse ++ st.map (rV g ad) := by
    show (As.reverse ++ st).map (rV g ad) = _
    rw [List.map_append, List.map_reverse]
  intro T hT X0
  obtain ⟨mk, hnamed⟩ := Cond.code_named hcode
  obtain ⟨methM, cM, hmethM, hcM, -, hlM, -, -, -, hsigM⟩ := Cond.code_spec hnamed hcode
  have hstatic : methM.isStatic = true := Cond.static_spec hnamed hmethM (hF.word hsta (xa X))
  obtain ⟨kP, hkP, -⟩ := className_of_methodNamed hnamed
  have hinitP : kP.init = .initialized := Cond.initialized_spec (findClass_of_methodNamed hnamed) hkP (hF.word hcb.2.1 (xa X))
  have hlen : (As.map (rV g ad)).length = methM.sig.parameters.length := by
    have h9 := hcb.2.2.2.2
    rw [hsigM] at h9
    rw [List.length_map]
    exact (Option.some.inj h9).symm
  obtain ⟨vm₁, X₁, hstep₁⟩ := X0.invokestatic hx hown (hF.word hl9 _) hnamed hmethM hstatic hkP hinitP hyc (g := F0 (xm X) pc ls ((As.reverse ++ st).map (rV g ad))) rfl (argsL := As.map (rV g ad)) (rest := st.map (rV g ad)) hlen hstack (by rw [hb]; exact hd)
  have hPc := qPre_blind (As := As) (g := g) (ad := ad) (M0 := M) (a := (As.map (rV g ad)).toArray) (U := T.setVm vm₁) (F0 (xm X) pc ls (st.map (rV g ad))) mk (qPre_at (As := As) ok I (T.setVm vm₁) hT X₁.warmed)
  obtain ⟨t, U', Lc, e1, e2, X', hL, hcase⟩ := qx_go X₁ (a := (As.map (rV g ad)).toArray) hM (Nat.le_trans hfr hfr0) (maxL := Y'.2.2.1) (Nat.le_trans hlo hlo0) (by show cells + (mC M' - mC M) ≤ _; omega) (by show slots + (mT M' - mT M) ≤ _; omega)
    (fun w hw => by rw [List.mem_singleton.mp hw]; exact word_at X₁.warmed (Or.inl rfl) hcode) (g := F0 (xm X) pc ls (st.map (rV g ad))) rfl (I.2.2.2.2.2.1.1.trans hml.symm) (by rw [hb]; exact hd) (lv_room (by rw [rS_cat]; exact h8)) (X₁.named hnamed) (by show (T.setVm vm₁).vm.method? mk = _; rw [X₁.warmed.alike.method?]; exact hmethM) hcM hlM (word_at X₁.warmed (good_of_word (qTT_good _ hcb.2.1)) (hF.word hcb.2.1 (xa X))) hPc
  rcases hcase with ⟨v, hq, -⟩ | ⟨q, hq, hsteps⟩
  · rcases hq with ⟨⟨v1, ad1, hr1, -⟩, -⟩ | ⟨E1, q1, ce, L1, ad1, -, ho, -⟩
    · cases hr1
    · cases ho
  · rcases hq with ⟨⟨v1, ad1, hr1, -⟩, -⟩ | ⟨E1, q1, ce, L1, ad1, hE, ho, hag, hR1, hw1, ⟨hFz, hFk⟩, hce, hv, hcl1, -, -, -⟩
    · cases hr1
    · cases Sum.inr.inj hE
      cases ho
      have hFz' : H.size ≤ U'.heap.size := by rw [e1, ← hT]; exact hFz
      have hFk' : ∀ q : Nat, q < H.size → ¬ qA g q → U'.heap[q]? = H[q]? := fun q h1 h2 => by rw [e1, ← hT]; exact hFk q (by show q < T.heap.size; rw [hT]; exact h1) h2
      obtain ⟨t2, a1, b1⟩ := fin.2 ad ad1 H locs Lc cells slots ls U' _ ce (st.map (rV g ad)) ok I d1 X' hL hag (by rw [e1]; exact hR1) hw1 hFz' hFk' (by rw [e1]; exact hce) hv (by have h9 : (T.setVm vm₁).vm.findClass E = some ce.cls := hcl1; rw [X₁.warmed.alike.findClass] at h9; exact h9)
      exact ⟨t2, hstep₁ _ fun acts => by rw [doInvoke_state]; exact hsteps.trans a1, b1⟩
/-- a static method with handlers, as the tables have it -/
def qCw (own : String) (ix : Nat) (Y' : qY) (n : Nat) : Prop := Cond.codeWith Y'.1 Y'.2.1 Y'.2.2.1 Y'.2.2.2 (qHd Y') ∈ lw_tbl ∧ Cond.initialized Y'.1.cls ∈ qTT ∧ Y'.1.cls ≠ "java/lang/invoke/MethodHandle" ∧ Y'.1.cls ≠ "java/lang/invoke/VarHandle" ∧ (parseMethodDescriptor Y'.1.desc).map (fun d => d.parameters.length) = some n ∧ Cond.static Y'.1 ∈ qTT ∧ Cond.methodLink own ix Y'.1 ∈ qTT
/-- a static method with handlers, by its contract -/
theorem ew_callSw {Y' : qY} {ix fr' lo' : Nat} {v : Option Value} {M' : PM} {stk stk' : List Value} (As : List Value) (hd : decode Y.2.1 pc = .ok (.invokestatic ix, 3)) (hc : qCw Y.1.cls ix Y' As.length) (ht : CTw Y' fr' lo' As M (.inl v) M') (hfr : fr' + 1 ≤ zn Z) (hlo : 8 + (Y'.2.2.1 + 11) + lo' ≤ zl Z) (h8 : (st.map fun v => v.category).sum ≤ 8) (hstk : As.reverse ++ st = stk) (hstk' : v.toList ++ st = stk') (k : EW Y g X Z (pc + 3) L stk' M') : EW Y g X Z pc L stk M := by
  subst hstk; subst hstk'
  refine ⟨⟨Nat.le_trans (ht.1 g X).1 k.1.1, Nat.le_trans (ht.1 g X).2.1 k.1.2.1, Nat.le_trans (ht.1 g X).2.2 k.1.2.2⟩, fun ok ad H locs cells slots ls I hs => ?_⟩
  obtain ⟨hx, hb, hml, hown, hr, hlk, hEx, hnm, hst, hF, hg0, hfr0, hlo0, hRc, hRs⟩ := id ok
  obtain ⟨hcw, hini, hy1, hy2, hpar, hsta, hl9⟩ := hc
  obtain ⟨w1, w2⟩ := wfS_rev hs
  have c1 := I.2.2.2.2.2.2.1
  have c2 := I.2.2.2.2.2.2.2
  have d1 := ht.1 g X
  have hz1 := k.1
  have hM := ht.2 (xl X) g ad hst I.2.2.1 w1
  have hcode : (Cond.codeWith Y'.1 Y'.2.1 Y'.2.2.1 Y'.2.2.2 (qHd Y')).before (xa X) (xs X) = true := qGw_at (State.WarmedH.refl _) rfl (hF.2.2.2.1.1 _ hcw rfl)
  have hyc : Y'.1.cls ≠ "java/lang/invoke/MethodHandle" ∧ Y'.1.cls ≠ "java/lang/invoke/VarHandle" := ⟨hy1, hy2⟩
  have hstack : (F0 (xm X) pc ls ((As.reverse ++ st).map (rV g ad))).stack = (As.map (rV g ad)).reverse ++ st.map (rV g ad) := by
    show (As.reverse ++ st).map (rV g ad) = _
    rw [List.map_append, List.map_reverse]
  intro T hT X0
  obtain ⟨mk, methM, cM, hnamed, hmethM, hcM, -, hlM, -, -, -, hsigM⟩ := Cond.codeWith_spec hcode
  have hstatic : methM.isStatic = true := Cond.static_spec hnamed hmethM (hF.word hsta (xa X))
  obtain ⟨kP, hkP, -⟩ := className_of_methodNamed hnamed
  have hinitP : kP.init = .initialized := Cond.initialized_spec (findClass_of_methodNamed hnamed) hkP (hF.word hini (xa X))
  have hlen : (As.map (rV g ad)).length = methM.sig.parameters.length := by
    have h9 := hpar
    rw [hsigM] at h9
    rw [List.length_map]
    exact (Option.some.inj h9).symm
  obtain ⟨vm₁, X₁, hstep₁⟩ := X0.invokestatic hx hown (hF.word hl9 _) hnamed hmethM hstatic hkP hinitP hyc (g := F0 (xm X) pc ls ((As.reverse ++ st).map (rV g ad))) rfl (argsL := As.map (rV g ad)) (rest := st.map (rV g ad)) hlen hstack (by rw [hb]; exact hd)
  have hPc := qPre_blind (As := As) (g := g) (ad := ad) (M0 := M) (a := (As.map (rV g ad)).toArray) (U := T.setVm vm₁) (F0 (xm X) pc ls (st.map (rV g ad))) mk (qPre_at (As := As) ok I (T.setVm vm₁) hT X₁.warmed)
  obtain ⟨t, U', Lc, e1, e2, X', hL, hcase⟩ := qx_go X₁ (a := (As.map (rV g ad)).toArray) hM (Nat.le_trans hfr hfr0) (maxL := Y'.2.2.1) (Nat.le_trans hlo hlo0) (by show cells + (mC M' - mC M) ≤ _; omega) (by show slots + (mT M' - mT M) ≤ _; omega)
    (fun w hw => by rw [List.mem_singleton.mp hw]; exact word_at X₁.warmed (Or.inl rfl) hcode) (g := F0 (xm X) pc ls (st.map (rV g ad))) rfl (I.2.2.2.2.2.1.1.trans hml.symm) (by rw [hb]; exact hd) (lv_room (by rw [rS_cat]; exact h8)) (X₁.named hnamed) (by show (T.setVm vm₁).vm.method? mk = _; rw [X₁.warmed.alike.method?]; exact hmethM) hcM hlM (word_at X₁.warmed (good_of_word (qTT_good _ hini)) (hF.word hini (xa X))) hPc
  rcases hcase with ⟨v0, hq, hsteps⟩ | ⟨q, hq, -⟩
  · rcases hq with ⟨⟨v1, ad1, hr1, ho, hag, hR1, hw1, hv1⟩, ⟨hFz, hFk⟩, -⟩ | ⟨E1, q1, ce, L1, ad1, hE, -⟩
    · cases Sum.inl.inj hr1
      cases ho
      have S := I.2.2.2.2.1
      have hFz' : H.size ≤ U'.heap.size := by rw [e1, ← hT]; exact hFz
      have hFk' : ∀ q : Nat, q < H.size → ¬ qA g q → U'.heap[q]? = H[q]? := fun q h1 h2 => by rw [e1, ← hT]; exact hFk q (by show q < T.heap.size; rw [hT]; exact h1) h2
      have K := k.2 ok ad1 U'.heap (locs ++ Lc) (cells + (mC M' - mC M)) (slots + (mT M' - mT M)) ls
        ⟨⟨Nat.le_trans I.1.1 d1.2.2, fun j hj => (hag j (Nat.lt_of_lt_of_le hj I.1.1)).trans (I.1.2 j hj)⟩, by rw [e1]; exact hR1, hw1, wfL_mono d1.2.2 I.2.2.2.1,
          ⟨Nat.le_trans S.1 hFz', fun q h1 h2 => (hFk' q (Nat.lt_of_lt_of_le h1 S.1) h2).trans (S.2.1 q h1 h2), fun q hq => (List.mem_append.mp hq).elim (S.2.2 q) (hL q)⟩,
          by rw [rL_ext hag I.2.2.2.1]; exact I.2.2.2.2.2.1, by omega, by omega⟩ (wfS_app hv1 (wfS_mono d1.2.2 w2))
      have e9 : (v.toList ++ st).map (rV g ad1) = (v.map (rV g ad1)).toList ++ st.map (rV g ad) := by
        rw [List.map_append, rS_ext hag w2]
        cases v <;> rfl
      rw [e9] at K
      obtain ⟨t2, a1, b1⟩ := K U' rfl X'
      exact ⟨t2, hstep₁ _ fun acts => by rw [doInvoke_state]; exact hsteps.trans a1, b1⟩
    · cases hE
  · rcases hq with ⟨⟨v1, ad1, hr1, ho, -⟩, -⟩ | ⟨E1, q1, ce, L1, ad1, hE, -⟩
    · cases ho
    · cases hE
end EWX2
/-! throw new E("text") -/
theorem qZr_isRef {C n d : String} {A : Nat → Prop} {U : State} {args : Array Value} (h : qZr C n d A U U.heap) : (Cond.isRef (.static C n d)).before args U = true := by
  have key : ∀ v : Value, v.isRef = true → va_Z C n d v A U U.heap → (Cond.isRef (.static C n d)).before args U = true := by
    intro v hv hz
    obtain ⟨cf, kf, fi, f, a, cell, h1, h2, h3, h4, h5, h6, h7, -⟩ := hz
    have he : (Term.static C n d).eval args U none [] U = some v := by
      simp [Term.eval, State.fieldNamed?, h1, h2, h4, h5, h6, h7]
    simp only [Cond.before, Cond.holds, Cond.value, he]
    cases v <;> simp_all [Value.isRef]
  rcases h.1 with hz | ⟨t, hz⟩
  · exact key .null rfl hz
  · exact key (.ref t) rfl hz
theorem qZr_lays {C n d : String} {A : Nat → Prop} {U : State} {args : Array Value} (h : qZr C n d A U U.heap) : (Cond.laysStatic C n d).before args U = true := by
  obtain ⟨-, c, k, i, f, a, cell, h1, h2, h3, h4, h5, h6, h7, h8, h9, -⟩ := h
  exact Cond.laysStatic_of h1 h2 h3 h4 h5 h6 h7 h8 h9
def qHp (w : Cond) : Bool := decide (w = .isRef (.static "java/lang/Throwable" "UNASSIGNED_STACK" "[Ljava/lang/StackTraceElement;")) || decide (w = .isRef (.static "java/lang/Throwable" "SUPPRESSED_SENTINEL" "Ljava/util/List;")) || decide (w = .laysStatic "java/lang/Throwable" "UNASSIGNED_STACK" "[Ljava/lang/StackTraceElement;") || decide (w = .laysStatic "java/lang/Throwable" "SUPPRESSED_SENTINEL" "Ljava/util/List;")
section QR
variable {p : Program} {l : Launch} {e : Env} {R : Room} {s : State} {m : MethodId} {args : Array Value} {below : List Frame} {meth : Method} {c : Code} {T : State} {locs : List Loc} {cells slots : Nat}
/-- the frame as if its method had been invoked just now, in this heap -/
theorem qx_anew (X : Stand p l e R s m args below meth c T locs cells slots) {R' : Room} (hf : R'.frames ≤ R.frames) (hl : R'.locals ≤ R.locals) (hc : cells + R'.cells ≤ R.cells) (hs : slots + R'.slots ≤ R.slots) :
    Stand p l e R' ((T.setVm s.vm).setFrames (.invoking m args :: below)) m args below meth c T [] 0 0 := by
  have htop : (T.setVm s.vm).topJava?.isSome := X.here.top
  have hF : ((T.setVm s.vm).setFrames (.invoking m args :: below)).frames = .invoking m args :: below := State.frames_setFrames _ (State.cur_lt_of_top htop)
  obtain ⟨g₀, hg0⟩ := Option.isSome_iff_exists.mp htop
  obtain ⟨r, hr⟩ := State.topJava?_eq_some.mp hg0
  obtain ⟨t, ht, -⟩ := State.frames_cons hr
  have hlim : e.platform.stackLimits (T.setVm s.vm).me = e.platform.stackLimits s.me := X.limits
  have hbyt : (T.setVm s.vm).me.stackBytes = s.me.stackBytes := X.bytes
  have hU : ((T.setVm s.vm).setFrames (.invoking m args :: below)).localsInUse = s.localsInUse := by
    rw [State.localsInUse_invoking hF (meth := meth) (c := c) X.method X.code, State.localsInUse_invoking X.frames X.method X.code]
  have hnil : ((T.heap.toList.drop T.heap.size).map (fun q => q.slots.size)).sum = 0 := by
    rw [List.drop_eq_nil_of_le (Nat.le_of_eq Array.length_toList)]
    rfl
  have hroom : ((T.setVm s.vm).setFrames (.invoking m args :: below)).hasRoom e.platform R' = true := by
    have h := X.room
    have q1 := X.heapSize
    have q2 := X.used
    simp only [State.hasRoom, Bool.and_eq_true, decide_eq_true_eq] at h ⊢
    obtain ⟨⟨⟨⟨h1, h2, h3, h4, h5, h6⟩, h7⟩, h8⟩, h9⟩ := h
    rw [X.frames, List.length_cons] at h2 h3
    simp only [hF, hU, List.length_cons, State.stackLimits_setFrames, State.stackBytes_setFrames, hlim, hbyt]
    refine ⟨⟨⟨⟨by omega, by omega, by omega, by omega, by omega, h6⟩, ?_⟩, ?_⟩, X.book⟩
    · show T.heap.size + R'.cells ≤ e.platform.maxCells
      omega
    · show T.slotsUsed + R'.slots ≤ e.platform.maxSlots
      omega
  refine ⟨X.admits, X.cas, X.clock, hF, hroom, X.hears, X.method, X.code, X.here, X.tail, X.warmed, ?_, ?_, ?_⟩
  · rw [State.stackLimits_setFrames]; rfl
  · rw [State.stackBytes_setFrames]; rfl
  · refine ⟨?_, Nat.le_refl _, Nat.le_refl _, ?_, ?_, fun a c9 h9 => ⟨c9, h9, rfl, rfl, fun _ _ => rfl⟩⟩
    · show T.setVm s.vm = { ((T.setVm s.vm).setFrames (.invoking m args :: below)).setFrames (T.setVm s.vm).frames with heap := T.heap, slotsUsed := T.slotsUsed }
      rw [State.setFrames_setFrames, State.setFrames_self ht]
      rfl
    · show T.slotsUsed = T.slotsUsed + ((T.heap.toList.drop T.heap.size).map (·.slots.size)).sum
      rw [hnil]
      rfl
    · show ((T.heap.toList.drop T.heap.size).map (·.slots.size)).sum ≤ 0
      rw [hnil]
      exact Nat.le_refl _
end QR
def qTh (Y : qY) (pc : Nat) (cls : String) (nl : Nat) : Prop := ∃ (text : String) (names : List String) (ik is ic : Nat), names.length = nl ∧ Bundle.fit cls = true ∧ (∀ n ∈ names, Bundle.fit n = true) ∧ Cond.classLink Y.1.cls ik cls ∈ lw_tbl ∧ Cond.initialized cls ∈ lw_tbl ∧ (Y.1.cls, is, text) ∈ qSr ∧ (∀ w ∈ Bundle.ownAtoms Y.1.cls ic cls names, qHp w = true ∨ (w ∈ lw_tbl ∧ qGw w = true)) ∧ decode Y.2.1 pc = .ok (.new ik, 3) ∧ decode Y.2.1 (pc + 3) = .ok (.dup, 1) ∧ decode Y.2.1 (pc + 4) = .ok (.ldc is, 2) ∧ decode Y.2.1 (pc + 6) = .ok (.invokespecial ic, 3) ∧ decode Y.2.1 (pc + 9) = .ok (.athrow, 1)
set_option maxHeartbeats 4000000 in
theorem ew_throw {Y : qY} {g : qG} {X : qX} {Z : qZ} {pc : Nat} {L : List (Nat × Value)} {st : List Value} {M : PM} {cls : String} {nl : Nat} (h0 : qHd Y = []) (hT9 : qTh Y pc cls nl) (hz : zr Z = .inr cls) (hm : zf Z = nX M) (hfr : nl + 4 ≤ zn Z) (hlo : (st.map fun v => v.category).sum + (13 * (nl + 1) + 43) ≤ zl Z) : EW Y g X Z pc L st M := by
  refine ⟨by rw [hm]; exact ⟨Nat.le_succ _, Nat.le_add_right _ _, Nat.le_refl _⟩, fun ok ad H locs cells slots ls I hs => ?_⟩
  obtain ⟨hx, hb, hml, hown, hr, hlk, hEx, hnm, hst, hF, hg0, hfr0, hlo0, hRc, hRs⟩ := id ok
  obtain ⟨text, names, ik, is, ic, hnl, hfit, hnames, h1, h2, h3, h4, d0, d3, d4, d6, d9⟩ := hT9
  obtain ⟨sa, hsa⟩ := hF.2.2.2.2.2.2.1 _ h3
  have c1 := I.2.2.2.2.2.2.1
  have c2 := I.2.2.2.2.2.2.2
  have S := I.2.2.2.2.1
  have m1 : mC (zf Z) = mC M + 1 := by rw [hm]; rfl
  have m2 : mT (zf Z) = mT M + 6 := by rw [hm]; rfl
  subst hnl
  intro T hT X0
  have htr : (xe X).platform.stackTraces = false := (show (xe X).platform.stackTraces = (xl X).stackTraces by rw [X0.admits.platform]).trans hst
  have Y0 := qx_anew X0 (R' := { frames := (xR X).frames, locals := (xR X).locals, cells := 1, slots := 6 }) (Nat.le_refl _) (Nat.le_refl _) (by show cells + 1 ≤ _; omega) (by show slots + 6 ≤ _; omega)
  obtain ⟨s', hs'⟩ : ∃ z, z = (T.setVm (xs X).vm).setFrames (.invoking (xm X) (xa X) :: xb X) := ⟨_, rfl⟩
  rw [← hs'] at Y0
  have hvm : s'.vm = (xs X).vm := by rw [hs']; rfl
  have hhp : s'.heap = H := by rw [hs']; exact hT
  have hW0 : (xs X).WarmedH s'.vm := by rw [hvm]; exact State.WarmedH.refl _
  have hFs : qF g s' s'.heap := by rw [hhp]; exact (qF.kept hF (fun a h1 h2 => S.2.1 a h1 h2)).moved hW0
  have hall : ∀ w ∈ lw_tbl, qGw w = true → w.before (xa X) s' = true := fun w hw hg => qGw_at (State.WarmedH.refl s') hg (hFs.2.2.2.1.1 w hw hg)
  have hown' : s'.vm.findClass Y.1.cls = some (xm X).cls := by rw [hvm]; exact hown
  have hat : ∀ w ∈ Bundle.ownAtoms Y.1.cls ic cls names, w.before (xa X) s' = true := by
    intro w hw
    rcases h4 w hw with hh | ⟨hh, hg⟩
    · simp only [qHp, Bool.or_eq_true, decide_eq_true_eq] at hh
      rcases hh with ((hh | hh) | hh) | hh
      · rw [hh]; exact qZr_isRef hFs.2.2.2.2.1
      · rw [hh]; exact qZr_isRef hFs.2.2.2.2.2.1
      · rw [hh]; exact qZr_lays hFs.2.2.2.2.1
      · rw [hh]; exact qZr_lays hFs.2.2.2.2.2.1
    · exact hall w hh hg
  have hins : (Cond.instantiable cls 6).before (xa X) s' = true := hat _ (by simp [Bundle.ownAtoms])
  obtain ⟨vm₁, cX, kX, hfX, hkX, -, -, X₁, st1⟩ := Y0.newCold hx (own := Y.1.cls) (C := cls) (index := ik) (n := 6) hown' (hall _ h1 rfl) hins (hall _ h2 rfl)
    (g := F0 (xm X) pc ls (st.map (rV g ad))) rfl (by rw [hb]; exact d0) (Nat.le_refl _) (Nat.le_refl _)
  generalize hT1 : (T.setVm vm₁).pushCell { cls := cX, slots := kX.instanceTypes.map defaultValue, vm := .none } = T1 at X₁ st1
  have hcellA : T1.heap[T.heap.size]? = some (freshCell cX kX) := by rw [← hT1]; exact State.heap_pushCell_size _ _
  have d3' : decode (xc X).code (pc + 3) = .ok (.dup, 1) := by rw [hb]; exact d3
  have hsa' : vk_R Y.1.cls is text sa s' := vk_R.same hvm hsa
  have hsize : ls.size = (xc X).maxLocals := I.2.2.2.2.2.1.1.trans hml.symm
  have hcat : (Value.ref T.heap.size).category = 1 := rfl
  obtain ⟨U, hsteps, hrun, hend, hWU, hsame, ce, hce, hO⟩ := X₁.ctorThrowS hx htr (own := Y.1.cls) (cls := cls) (names := names) (ic := ic) hown' hfit hnames hat (fun x hx => nomatch hx) hfX hkX hcellA (by rw [hhp, hT]; exact Nat.le_refl _) (msg := .ref sa) rfl
    (g := { method := xm X, pc := pc + 6, locals := ls, stack := .ref sa :: .ref T.heap.size :: .ref T.heap.size :: st.map (rV g ad), locked := none }) rfl hsize rfl rfl (rest := st.map (rV g ad)) rfl
    (by rw [hb]; exact d6) (by rw [hb]; exact d9) (fun x hx => (qHd_nil (hEx.trans h0) x hx).elim) (by show names.length + 3 < (xR X).frames; omega) (by show 2 * 0 + _ + _ ≤ (xR X).locals; rw [List.map_cons, List.sum_cons, hcat, rS_cat]; omega) hlk
  have hWs : (xs X).WarmedH U.vm := State.WarmedH.trans hW0 hWU
  have hcl : (xs X).vm.findClass cls = some ce.cls := by
    have h9 := hO.cls
    rw [hvm] at h9
    exact h9
  have hfr9 : H.size ≤ U.heap.size ∧ ∀ q : Nat, q < H.size → U.heap[q]? = H[q]? := by
    obtain ⟨-, z2, -, -, -, z6⟩ := id hsame
    rw [hhp] at z2 z6
    refine ⟨z2, fun q hq => ?_⟩
    obtain ⟨c9, e1, e2, e3, e4⟩ := z6 q _ (Array.getElem?_eq_getElem hq)
    have hsl : c9.slots = (H[q]).slots := Array.ext_getElem? fun i => e4 i (fun hm => nomatch hm)
    have h9 : c9 = H[q] := by
      rw [hsl] at e2
      exact e2
    have e5 : U.heap[q]? = some c9 := e1
    rw [e5, h9, Array.getElem?_eq_getElem hq]
  have hsm : (xs X).sameButNew ({ U with vm := (xs X).vm } : State) locs (mC (zf Z) - mC (z0 Z)) (mT (zf Z) - mT (z0 Z)) := by
    subst hs'
    obtain ⟨e1, e2⟩ := hsame
    rw [State.setFrames_setFrames] at e1
    have h2 : (T.setVm (xs X).vm).sameButNew ({ U with vm := (xs X).vm } : State) [] (0 + 1) (0 + 6) := ⟨e1, e2⟩
    have h3 := X0.same.trans h2
    rw [List.append_nil] at h3
    exact h3.mono (by omega) (by omega)
  refine ⟨U, ?_, .threw T.heap.size, hrun, hend, Or.inr ⟨cls, T.heap.size, ce, locs, ad, hz, rfl, I.1.2, ?_, ?_, ?_, hce, hO.vm, hcl, hWs, hsm, S.2.2⟩⟩
  · refine st1 _ ?_
    show Steps (xp X).tables (xe X) (xb X) (T1.setTop { method := xm X, pc := pc + 3, locals := ls, stack := .ref T.heap.size :: st.map (rV g ad), locked := none }) _
    jvm_step X₁.here [X₁.here.top, hx, d3', Value.category]
    exact X₁.ldcString hx hown' (text := text) (a := sa) hsa'.1 hsa'.2 (g := { method := xm X, pc := pc + 4, locals := ls, stack := .ref T.heap.size :: .ref T.heap.size :: st.map (rV g ad), locked := none }) rfl (by rw [hb]; exact d4) _ hsteps
  · rw [hm]
    exact ⟨I.2.1.1.kept (fun k q hk => hfr9.2 q.1 ((I.2.1.1 k q hk).lt)), I.2.1.2⟩
  · rw [hm]
    exact I.2.2.1
  · exact ⟨Nat.le_trans S.1 hfr9.1, fun q q1 q2 => (hfr9.2 q (Nat.lt_of_lt_of_le q1 S.1)).trans (S.2.1 q q1 q2)⟩
