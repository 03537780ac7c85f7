/-! THE PURE MACHINE: the start, and the claim out of the pure function of the law -/
def qM0 : PM := (0, fun _ => 0, fun _ => 0, fun _ _ => 0, fun _ _ => 0, fun _ _ => .null, 0, 0)
theorem qTT_lw : ∀ w ∈ qTT, w ∈ lw_tbl := by
  intro w hw
  rw [qTT_in] at hw
  obtain ⟨i, -, hi⟩ := List.mem_filterMap.mp hw
  exact List.mem_of_getElem? hi
theorem qNN_lw : ∀ w ∈ qNN, w ∈ lw_tbl := by
  intro w hw
  rw [qNN_in] at hw
  obtain ⟨i, -, hi⟩ := List.mem_filterMap.mp hw
  exact List.mem_of_getElem? hi
theorem qNl_tab {w : Cond} (h : qNl w = true) : w.onTables = true := by
  cases w with
  | fieldLinkNest a i b n d h9 => rfl
  | methodLinkNest a i x h9 => rfl
  | _ => cases h
theorem qCl_inst : ∀ q ∈ qCl, Cond.instantiable q.1 q.2.2 ∈ qTT := by decide +kernel
theorem qNc_in : ∀ q ∈ qNc, Cond.not (.castable q.1 q.2) ∈ flatC (Jvm.Cond.and given_1 narrow_1) := by decide +kernel
theorem qSr_in : ∀ q ∈ qSr, Cond.stringRef q.1 q.2.1 q.2.2 ∈ tables_1 ∧ Cond.exactly (.string q.1 q.2.1) "java/lang/String" ∈ flatC (Jvm.Cond.and given_1 narrow_1) := by decide +kernel
theorem tb_lw {w : Cond} (h : w ∈ tables_1) : w ∈ lw_tbl := List.mem_append_right _ h
theorem q_arr {args : Array Value} {s : State} {ty : FieldType} (h : (Cond.arrayClass ty).before args s = true) : ∃ c : ClassId, ArrOfT s c ty ∧ s.vm.findClass ("[" ++ ty.toString) = some c := by
  obtain ⟨c, k, comp, h1, h2, h3⟩ := Cond.arrayClass_spec h
  exact ⟨c, fun N z => ⟨(fun k h => by cases h), k, h2, comp, h3⟩, h1⟩
theorem q_Zr {args : Array Value} {s : State} {C n d : String} {A : Nat → Prop} (hl : (Cond.laysStatic C n d).before args s = true) (hini : (Cond.initialized C).before args s = true) (h : (Cond.isRef (.static C n d)).before args s = true) (hA : ∀ a : Nat, a < s.heap.size → ¬ A a) : qZr C n d A s s.heap := by
  obtain ⟨c, k, i, f, a, cell, h1, h2, h3, h4, h5, h6, h7, h8, h9⟩ := Cond.laysStatic_spec hl
  exact ⟨va_Zqof hl hini h hA, c, k, i, f, a, cell, h1, h2, h3, h4, h5, h6, h7, h8, h9, hA a (Array.getElem?_eq_some_iff.mp h5).1⟩
def R_law : String := "FlushProofsLaw"
/-- what holds at the law's entry -/
def lw_At (p : Program) (s : State) (m : MethodId) (meth : Method) (c : Code) (b L : Nat) (xs : Nat → Int32) : Prop :=
  p.tables.exec = Jvm.exec ∧ c.code = code ∧ meth.sig.returnType = ret ∧ c.maxLocals = 7 ∧ s.vm.findClass R_law = some m.cls ∧ (∀ w ∈ lw_tbl, w.before #[Value.ref b] s = true) ∧ va_X b L xs s s.heap ∧ b < s.heap.size ∧ meth.locks = false ∧ (Jvm.Cond.and given_1 narrow_1).before #[Value.ref b] s = true ∧ c.exceptionTable.isEmpty = true ∧ meth.name = "law"
theorem q_col {s : State} {b : Nat} (hs : ∀ c ∈ flatC (Jvm.Cond.and given_1 narrow_1), c.before #[Value.ref b] s = true) {A : Nat → Prop} (hA : ∀ a : Nat, a < s.heap.size → ¬ A a) :
    ∃ t : Nat, (Term.static "FlushProofs" "COLUMNS" "[J").eval #[Value.ref b] s none [] s = some (.ref t) ∧ va_T .long t 6 (fun j => .long (qCol j)) A s s.heap := by
  refine va_Tof (by decide) (hs _ (by decide +kernel)) (Cond.eq_int (n := 6) (b := .int 6) (hs _ (by decide +kernel)) rfl) ?_ hA
  intro j hj
  rcases (show j = 0 ∨ j = 1 ∨ j = 2 ∨ j = 3 ∨ j = 4 ∨ j = 5 by omega) with h | h | h | h | h | h <;> subst h
  · exact Cond.eq_long (b := .long (-6148914691236517206)) (hs _ (by decide +kernel)) rfl
  · exact Cond.eq_long (b := .long (-3689348814741910324)) (hs _ (by decide +kernel)) rfl
  · exact Cond.eq_long (b := .long (-1085102592571150096)) (hs _ (by decide +kernel)) rfl
  · exact Cond.eq_long (b := .long (-71777214294589696)) (hs _ (by decide +kernel)) rfl
  · exact Cond.eq_long (b := .long (-281470681808896)) (hs _ (by decide +kernel)) rfl
  · exact Cond.eq_long (b := .long (-4294967296)) (hs _ (by decide +kernel)) rfl
theorem q_at {p : Program} {s : State} {m : MethodId} {meth : Method} {c : Code} {b L : Nat} {xs : Nat → Int32} (C0 : lw_At p s m meth c b L xs) : ∃ g : qG, g.1 = s.heap.size ∧ g.2.2.2.1 = (b, L, xs) ∧ qF g s s.heap := by
  obtain ⟨-, -, -, -, -, hts, hX, hb, -, hgv, -, -⟩ := C0
  have hs := flat_of_before _ hgv
  have hall : ∀ w ∈ lw_tbl, qGw w = true → w.before #[] s = true := by
    intro w hw hg
    have h0 := hts w hw
    by_cases hq : goodWord w = true
    · exact word_at (State.WarmedH.refl s) (good_of_word hq) h0
    · have h1 : qGv w = true := by
        unfold qGw at hg
        rw [Bool.or_eq_true] at hg
        exact hg.resolve_left hq
      cases w with
      | declares x => exact va_tabs rfl rfl h0
      | castable C T => exact va_tabs rfl rfl h0
      | _ => cases h1
  have hTT : ∀ w ∈ qTT, w.before #[] s = true := fun w hw => hall w (qTT_lw w hw) (qGw_good (qTT_good w hw))
  have hNN : ∀ w ∈ qNN, va_Nw w s := fun w hw => va_tabs (qNl_tab (List.all_eq_true.mp qNN_all w hw)) rfl (hts w (qNN_lw w hw))
  have hcl : ∀ ci : Nat, ∃ (cC : ClassId) (iS : Nat → Nat), ∀ q : vw_C, qCl[ci]? = some q → u_Kn s q.1 q.2.1 q.2.2 cC iS := by
    intro ci
    cases hq : qCl[ci]? with
    | none => exact ⟨0, fun _ => 0, fun q h => by cases h⟩
    | some q =>
      obtain ⟨C, T, N⟩ := q
      obtain ⟨cC, iS, h⟩ := u_known (ws := qTT) hTT (qCl_ws ci C T N hq) (hTT _ (qCl_inst _ (List.mem_of_getElem? hq)))
      exact ⟨cC, iS, fun q' h' => by cases Option.some.inj h'; exact h⟩
  obtain ⟨cI, aI, fI⟩ := q_arr (hTT _ qAr_i)
  obtain ⟨cZ, aZ, fZ⟩ := q_arr (hTT _ qAr_z)
  obtain ⟨cL, aL, fL⟩ := q_arr (hTT _ qAr_l)
  have hA : ∀ a : Nat, a < s.heap.size → ¬ s.heap.size ≤ a := fun a h => Nat.not_le.mpr h
  obtain ⟨t, ht, hT⟩ := q_col hs (A := fun q => s.heap.size ≤ q) hA
  refine ⟨(s.heap.size, (fun ci => Classical.choose (hcl ci), fun ci => Classical.choose (Classical.choose_spec (hcl ci))), (cI, cZ, cL), (b, L, xs), t), rfl, rfl, hTT, hNN, ⟨fun ci q hq => Classical.choose_spec (Classical.choose_spec (hcl ci)) q hq, ?_⟩, ⟨hall, fun q hq => va_Nc.of (hs _ (qNc_in q hq))⟩, ?_, ?_, ?_, ?_, hT, hX, hA b hb⟩
  · intro k q hk
    rcases (show k = 0 ∨ k = 1 ∨ k = 2 ∨ 3 ≤ k by omega) with h | h | h | h
    · subst h; cases Option.some.inj hk; exact ⟨aI, fI⟩
    · subst h; cases Option.some.inj hk; exact ⟨aZ, fZ⟩
    · subst h; cases Option.some.inj hk; exact ⟨aL, fL⟩
    · rw [List.getElem?_eq_none (by exact h)] at hk; cases hk
  · exact q_Zr (hts _ (tb_lw (by decide +kernel))) (hts _ (tb_lw (by decide +kernel))) (hs _ (by decide +kernel)) hA
  · exact q_Zr (hts _ (tb_lw (by decide +kernel))) (hts _ (tb_lw (by decide +kernel))) (hs _ (by decide +kernel)) hA
  · intro q hq
    obtain ⟨h1, h2⟩ := qSr_in q hq
    obtain ⟨a, _, _, _, he, -⟩ := Cond.exactly_spec (hs _ h2)
    exact ⟨a, vk_R.of (hts _ (tb_lw h1)) he⟩
  · exact va_Zof (hts _ (tb_lw (by decide +kernel))) (hts _ (tb_lw (by decide +kernel))) ht hA
/-- what was written in new cells alone is nothing that was there before -/
theorem q_forget {s t : State} {L : List Loc} {k n k' n' : Nat} (h : s.sameButNew t L k n) (hL : ∀ z ∈ L, s.heap.size ≤ z.base) (hk : k ≤ k') (hn : n ≤ n') : s.sameButNew t [] k' n' := by
  refine State.sameButNew.mono ?_ hk hn
  obtain ⟨h1, h2, h3, h4, h5, h6⟩ := h
  refine ⟨h1, h2, h3, h4, h5, fun a c hc => ?_⟩
  obtain ⟨c', q1, q2, q3, q4⟩ := h6 a c hc
  refine ⟨c', q1, q2, q3, fun i _ => q4 i (fun hm => ?_)⟩
  have := hL _ hm
  exact absurd (Array.getElem?_eq_some_iff.mp hc).1 (Nat.not_lt.mpr this)
def lw_P (b : Addr) (xs : List Int32) (args : Array Value) (s : State) : Prop := args = #[.ref b] ∧ s.IntsAt b xs ∧ xs.length ≤ 2048 ∧ (Jvm.Cond.and given_1 narrow_1).before args s = true
def lw_Q (_ : Array Value) (s : State) (o : Outcome) (t : State) : Prop := o = .returned (some (.int 1)) ∧ Framed s o t [] 601024 7293034
def lw_Z (below : List Frame) (a : Array Value) (s : State) : State → Prop := fun t => ∃ o, t.status = .running ∧ Ended t below o ∧ lw_Q a s o t
/-- the law's body, from what its pure function comes to -/
theorem q_start {p : Program} {e : Env} {s : State} {m : MethodId} {below : List Frame} {meth : Method} {c : Code} (l : Launch) (hst : l.stackTraces = false) {b L : Nat} {xs : Nat → Int32} (C0 : lw_At p s m meth c b L xs) {n : Nat} {Mf : PM} (hF : F_XLaw_law xs L n qM0 = some (.inl (some (.int 1)), Mf)) (hC : mC Mf ≤ 601024) (hT : mT Mf ≤ 7293034) :
    W p l e room_1 s m #[Value.ref b] below meth c s.heap [] 0 0 (lw_Z below #[Value.ref b] s) (entryFrame m ([Value.ref b] : List Value).toArray 7) := by
  obtain ⟨g, hg1, hg2, hq⟩ := q_at C0
  obtain ⟨hx, hb, hr, hml, hown, -, -, -, hlk, -, hE, hnm⟩ := C0
  have E := (E_XLaw_law (g := g) (X := (p, l, e, room_1, s, m, #[Value.ref b], below, meth, c)) (Z := (fun j => j, qM0, .inl (some (.int 1)), Mf, 16, 408)) (xs := xs) (Ls := L) (by rw [hg2]) (Nat.le_refl _) (Nat.le_refl _) hF).2
  have hEx : c.exceptionTable.toList.map (fun h => (h.startPc, h.endPc, h.handlerPc, h.catchType)) = qHd Y_XLaw_law := by
    rw [Array.isEmpty_iff.mp hE]
    decide +kernel
  have hl := lv_entry (([.retAddr 0] : List Value).map (rV g (fun j => j))) (n := 7) (by rw [lg_sl_r]; decide)
  rw [lv_args_r] at hl
  have K := E ⟨hx, hb, hml, hown, hr, hlk, hEx, hnm, hst, hq, Nat.le_of_eq hg1, (show 16 ≤ room_1.frames by decide), (show 408 ≤ room_1.locals by decide), hC, hT⟩ (fun j => j) s.heap [] 0 0 _ ⟨⟨Nat.le_refl _, fun _ _ => rfl⟩, ⟨fun k q h => by simp [rW, mS, qM0] at h, (fun i j p q h => by simp [rW, mS, qM0] at h), fun k q h => by simp [rW, mS, qM0] at h⟩, ⟨fun k h => absurd h (Nat.not_lt_zero k), fun k => (show 0 < 2 ^ 31 by decide)⟩, wf_args _ [.retAddr 0] 0 ⟨trivial, trivial⟩, va_S.rf, hl, rfl, rfl⟩ trivial
  have hv : ([Value.retAddr 0] : List Value).map (rV g (fun j => j)) = [Value.ref b] := by
    show [Value.ref g.2.2.2.1.1] = _
    rw [hg2]
  rw [hv] at K
  intro T hT0 X0
  rw [lg_entry_eq]
  obtain ⟨t, a1, o, b1, b2, b3⟩ := K T hT0 X0
  refine ⟨t, a1, o, b1, b2, ?_⟩
  rcases b3 with ⟨⟨v, ad, hr1, ho, -⟩, -, Lc, ⟨hv1, hW, hsm⟩, hL⟩ | ⟨E1, q, ce, L1, ad, hr1, -⟩
  · cases Sum.inl.inj hr1
    subst ho
    refine ⟨rfl, ⟨_, rfl⟩, hW, q_forget hsm (fun z hz => by rw [← hg1]; exact hL z hz) ?_ ?_⟩
    · exact Nat.le_trans (Nat.sub_le _ _) hC
    · exact Nat.le_trans (Nat.sub_le _ _) hT
  · cases hr1
