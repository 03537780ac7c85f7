/-! THE PURE MACHINE: fields, arrays, makings, answers, contracts, calls -/
theorem set_range {n k : Nat} {f : Nat → Value} {x : Value} : ((List.range n).map f).set k x = (List.range n).map (fun j => if j = k then x else f j) := by
  apply List.ext_getElem?
  intro i
  rw [List.getElem?_set]
  by_cases e : k = i
  · subst e
    by_cases h : k < n
    · simp [h]
    · simp [h]
  · have e' : ¬ i = k := fun z => e z.symm
    by_cases h : i < n
    · simp [e, e', h]
    · simp [e, h]
theorem rE_congr {g : qG} {ad : Nat → Nat} {M M' : PM} {k : Nat} (h1 : mK M' k = mK M k) (h2 : mN M' k = mN M k) (h3 : mI M' k = mI M k) (h4 : mL M' k = mL M k) (h5 : mF M' k = mF M k) : rE g ad M' k = rE g ad M k := by
  unfold rE
  rw [h1, h2, h3, h4, h5]
theorem up2_ne {α : Type} {f : Nat → Nat → α} {a j k : Nat} {v : α} (h : k ≠ a) : up2 f a j v k = f k := by
  funext i
  simp [up2, h]
theorem up2_I {f : Nat → Nat → Int32} {a j : Nat} {v : Int32} : up2 f a j v a = upd (f a) j v := by
  funext i
  simp [up2, upd]
theorem up2_L {f : Nat → Nat → Int64} {a j : Nat} {v : Int64} : up2 f a j v a = vp_updL (f a) j v := by
  funext i
  simp [up2, vp_updL]
theorem va_up_ne' {α : Type} {f : Nat → α} {k j : Nat} {v : α} (h : j < k) : va_up f k v j = f j := va_up_ne f v (Nat.ne_of_lt h)
def qFl (own : String) (ix ci k : Nat) (fin : Bool) : Prop := ∃ (C : String) (T : u_T) (N : Nat), qCl[ci]? = some (C, T, N) ∧ k < N ∧ (T k).2.2.2 = fin ∧ (fin = true → (T k).1 = own → (T k).1 = own ∧ Cond.fieldLink own ix (T k).1 (T k).2.1 (T k).2.2.1 ∈ qTT) ∧ ((Cond.fieldLink own ix (T k).1 (T k).2.1 (T k).2.2.1 ∈ qTT) ∨ ∃ host, Cond.fieldLinkNest own ix (T k).1 (T k).2.1 (T k).2.2.1 host ∈ qNN)
def qNw (own : String) (ix ci : Nat) : Prop := ∃ (C : String) (T : u_T) (N : Nat), qCl[ci]? = some (C, T, N) ∧ Cond.classLink own ix C ∈ qTT ∧ Cond.instantiable C N ∈ qTT ∧ Cond.initialized C ∈ qTT
section EWH
variable {Y : qY} {g : qG} {X : qX} {Z : qZ} {pc : Nat} {L L' : List (Nat × Value)} {st : List Value} {M : PM}
theorem ew_getfield {ix a : Nat} {fin : Bool} (ci kk : Nat) (hd : decode Y.2.1 pc = .ok (.getfield ix, 3)) (hf : qFl Y.1.cls ix ci kk fin) (hk : mK M a = ci + 3) (k : EW Y g X Z (pc + 3) L (mF M a kk :: st) M) : EW Y g X Z pc L (.ref a :: st) M := by
  refine ⟨k.1, fun ok ad H locs cells slots ls I hs => ?_⟩
  obtain ⟨C, T, N, hc, hkN, -, -, hlink⟩ := hf
  obtain ⟨hx, hb, hml, hown, hr, hlk, hEx, hnm, hst, hF, hg0, -⟩ := id ok
  have hin := qCl_ws ci C T N hc
  have hN : qNf ci = N := by simp [qNf, hc]
  have ha : a < mS M := hs.1
  have hwn : wfS (mS M) (mF M a kk :: st) := ⟨I.2.2.1.1 a ha (by omega) kk, hs.2⟩
  have he : (rW g ad M)[a]? = some (ad a, .inr (ci, (List.range (qNf ci)).map (fun j => rV g ad (mF M a j)))) := by rw [rW_get ha, rE_3 hk]
  have hv : ((List.range (qNf ci)).map (fun j => rV g ad (mF M a j)))[kk]? = some (rV g ad (mF M a kk)) := by simp [hN, hkN]
  have hts : ∀ w ∈ qTT, w.before (xa X) (xs X) = true := fun w hw => hF.word hw _
  rcases hlink with hl | ⟨host, hl⟩
  · exact va_get hx hb hts hin hown hF.2.2.1 I.2.1.1 a he hc kk hkN (hts _ hl) (fun _ h => h) hv hd (k.2 ok ad H locs cells slots ls I hwn)
  · exact va_getN hx hb hts hin hown hF.2.2.1 I.2.1.1 a he hc kk hkN (va_Nw.use rfl (hF.2.1 _ hl)) (fun _ h => h) hv hd (k.2 ok ad H locs cells slots ls I hwn)
theorem rE_sF {ad : Nat → Nat} {a ci kk : Nat} {v : Value} (hk : mK M a = ci + 3) : rE g ad (sF M a kk v) a = .inr (ci, ((List.range (qNf ci)).map (fun j => rV g ad (mF M a j))).set kk (rV g ad v)) := by
  rw [rE_3 (M := sF M a kk v) hk, set_range]
  congr 2
  apply List.map_congr_left
  intro j _
  show rV g ad (up2 (mF M) a kk v a j) = _
  by_cases e : j = kk
  · simp [up2, e]
  · simp [up2, e]
theorem rW_sF {ad : Nat → Nat} {a ci kk : Nat} {v : Value} (hk : mK M a = ci + 3) : (rW g ad M).set a (ad a, .inr (ci, ((List.range (qNf ci)).map (fun j => rV g ad (mF M a j))).set kk (rV g ad v))) = rW g ad (sF M a kk v) := by
  rw [← rE_sF hk]
  exact rW_set rfl (fun j hj => rE_congr rfl rfl rfl rfl (up2_ne hj))
theorem wfM_sF {a kk : Nat} {v : Value} (hw : wfM M) (hv : wfV (mS M) v) : wfM (sF M a kk v) := by
  refine ⟨fun k hk h3 j => ?_, hw.2⟩
  show wfV (mS M) (up2 (mF M) a kk v k j)
  unfold up2
  split
  · exact hv
  · exact hw.1 k hk h3 j
theorem ew_putfield {ix a : Nat} {v : Value} (ci kk : Nat) (hd : decode Y.2.1 pc = .ok (.putfield ix, 3)) (hf : qFl Y.1.cls ix ci kk false) (hk : mK M a = ci + 3) (hfit : ∀ ad, narrow (qTy ci kk) (rV g ad v) = rV g ad v ∧ fits (qTy ci kk) (rV g ad v) = true) (k : EW Y g X Z (pc + 3) L st (sF M a kk v)) : EW Y g X Z pc L (v :: .ref a :: st) M := by
  refine ⟨k.1, fun ok ad H locs cells slots ls I hs => ?_⟩
  obtain ⟨C, T, N, hc, hkN, hfin, -, hlink⟩ := hf
  obtain ⟨hx, hb, hml, hown, hr, hlk, hEx, hnm, hst, hF, hg0, -⟩ := id ok
  have hin := qCl_ws ci C T N hc
  have hN : qNf ci = N := by simp [qNf, hc]
  have ha : a < mS M := hs.2.1
  have he : (rW g ad M)[a]? = some (ad a, .inr (ci, (List.range (qNf ci)).map (fun j => rV g ad (mF M a j)))) := by rw [rW_get ha, rE_3 hk]
  have hl9 : kk < ((List.range (qNf ci)).map (fun j => rV g ad (mF M a j))).length := by simp [hN, hkN]
  have hts : ∀ w ∈ qTT, w.before (xa X) (xs X) = true := fun w hw => hF.word hw _
  have go : ∀ (H1 : Heap) (locs1 : List Loc), va_P g.2.1 qCl ((rW g ad M).set a (ad a, .inr (ci, ((List.range (qNf ci)).map (fun j => rV g ad (mF M a j))).set kk (rV g ad v)))) H1 → va_D (qA g) ((rW g ad M).set a (ad a, .inr (ci, ((List.range (qNf ci)).map (fun j => rV g ad (mF M a j))).set kk (rV g ad v)))) → va_S (qA g) (xs X).heap H1 locs1 → qW g X Z H1 locs1 cells slots (F0 (xm X) (pc + 3) ls (st.map (rV g ad))) := by
    intro H1 locs1 p1 d1 s1
    rw [rW_sF hk] at p1 d1
    exact k.2 ok ad H1 locs1 cells slots ls ⟨I.1, ⟨p1, d1⟩, wfM_sF I.2.2.1 hs.1, I.2.2.2.1, s1, I.2.2.2.2.2⟩ hs.2.2
  rcases hlink with hl | ⟨host, hl⟩
  · exact va_put hx hb hts hin (qTy ci) (qTy_ok ci C T N hc) (qNm_ok ci C T N hc) hown hF.2.2.1 I.2.1.1 I.2.1.2 I.2.2.2.2.1 a he hc kk hkN (hts _ hl) (fun _ h => h) hfin (qTy_ok ci C T N hc kk hkN) (hfit ad).1 (hfit ad).2 hl9 hd go
  · exact va_putN hx hb hts hin (qTy ci) (qTy_ok ci C T N hc) (qNm_ok ci C T N hc) hown hF.2.2.1 I.2.1.1 I.2.1.2 I.2.2.2.2.1 a he hc kk hkN (va_Nw.use rfl (hF.2.1 _ hl)) (fun _ h => h) hfin (qTy_ok ci C T N hc kk hkN) (hfit ad).1 (hfit ad).2 hl9 hd go
theorem ew_putfieldF {ix a : Nat} {v : Value} (ci kk : Nat) (hd : decode Y.2.1 pc = .ok (.putfield ix, 3)) (hf : qFl Y.1.cls ix ci kk true) (hi : Y.1.name = "<init>") (hoc : ((qCl.getD ci ("", fun _ => ("", "", "", false), 0)).2.1 kk).1 = Y.1.cls) (hk : mK M a = ci + 3) (hfit : ∀ ad, narrow (qTy ci kk) (rV g ad v) = rV g ad v ∧ fits (qTy ci kk) (rV g ad v) = true) (k : EW Y g X Z (pc + 3) L st (sF M a kk v)) : EW Y g X Z pc L (v :: .ref a :: st) M := by
  refine ⟨k.1, fun ok ad H locs cells slots ls I hs => ?_⟩
  obtain ⟨C, T, N, hc, hkN, hfin, hown9, -⟩ := hf
  obtain ⟨hx, hb, hml, hown, hr, hlk, hEx, hnm, hst, hF, hg0, -⟩ := id ok
  have hin := qCl_ws ci C T N hc
  have hN : qNf ci = N := by simp [qNf, hc]
  have ha : a < mS M := hs.2.1
  have he : (rW g ad M)[a]? = some (ad a, .inr (ci, (List.range (qNf ci)).map (fun j => rV g ad (mF M a j)))) := by rw [rW_get ha, rE_3 hk]
  have hl9 : kk < ((List.range (qNf ci)).map (fun j => rV g ad (mF M a j))).length := by simp [hN, hkN]
  have hts : ∀ w ∈ qTT, w.before (xa X) (xs X) = true := fun w hw => hF.word hw _
  have e9 : qCl.getD ci ("", fun _ => ("", "", "", false), 0) = (C, T, N) := by simp [List.getD, hc]
  rw [e9] at hoc
  have hl := (hown9 rfl hoc).2
  refine va_putF hx hb hts hin (qTy ci) (qTy_ok ci C T N hc) (qNm_ok ci C T N hc) hown hF.2.2.1 I.2.1.1 I.2.1.2 I.2.2.2.2.1 a he hc kk hkN (hts _ hl) (fun _ h => h) hfin (hnm.trans hi) hoc (qTy_ok ci C T N hc kk hkN) (hfit ad).1 (hfit ad).2 hl9 hd ?_
  intro H1 locs1 p1 d1 s1
  rw [rW_sF hk] at p1 d1
  exact k.2 ok ad H1 locs1 cells slots ls ⟨I.1, ⟨p1, d1⟩, wfM_sF I.2.2.1 hs.1, I.2.2.2.1, s1, I.2.2.2.2.2⟩ hs.2.2
theorem ew_iaload {a : Nat} {i : Int32} (j : Nat) (hd : decode Y.2.1 pc = .ok (.iaload, 1)) (hk : mK M a = 0) (hi : i = nI j) (hj : j < mN M a) (k : EW Y g X Z (pc + 1) L (.int (mI M a j) :: st) M) : EW Y g X Z pc L (.int i :: .ref a :: st) M := by
  refine ⟨k.1, fun ok ad H locs cells slots ls I hs => ?_⟩
  obtain ⟨hx, hb, hml, hown, hr, hlk, hEx, hnm, hst, hF, hg0, -⟩ := id ok
  subst hi
  have ha : a < mS M := hs.2.1
  have hn : mN M a < 2 ^ 31 := I.2.2.1.2 a
  have he : (rW g ad M)[a]? = some (ad a, .inl (g.2.2.1.1, mN M a, .inl (mI M a))) := by rw [rW_get ha, rE_0 hk]
  refine va_iald hx hb hF.2.2.1 I.2.1.1 a 0 he rfl (vp_in_nI hj hn) hd ?_
  rw [nI_clamp (Nat.lt_trans hj hn)]
  exact k.2 ok ad H locs cells slots ls I ⟨trivial, hs.2.2⟩
theorem rW_sI0 {ad : Nat → Nat} {a j : Nat} {x : Int32} (hk : mK M a = 0) : (rW g ad M).set a (ad a, .inl (g.2.2.1.1, mN M a, .inl (upd (mI M a) j x))) = rW g ad (sI M a j x) := by
  have e : rE g ad (sI M a j x) a = .inl (g.2.2.1.1, mN M a, .inl (upd (mI M a) j x)) := by
    rw [rE_0 (M := sI M a j x) hk]
    show (.inl (g.2.2.1.1, mN M a, .inl (up2 (mI M) a j x a)) : va_E) = _
    rw [up2_I]
  rw [← e]
  exact rW_set rfl (fun i hi => rE_congr rfl rfl (up2_ne hi) rfl rfl)
theorem ew_iastore {a : Nat} {i : Int32} {x : Int32} (j : Nat) (hd : decode Y.2.1 pc = .ok (.iastore, 1)) (hk : mK M a = 0) (hi : i = nI j) (hj : j < mN M a) (k : EW Y g X Z (pc + 1) L st (sI M a j (x))) : EW Y g X Z pc L (.int x :: .int i :: .ref a :: st) M := by
  refine ⟨k.1, fun ok ad H locs cells slots ls I hs => ?_⟩
  obtain ⟨hx, hb, hml, hown, hr, hlk, hEx, hnm, hst, hF, hg0, -⟩ := id ok
  subst hi
  have ha : a < mS M := hs.2.2.1
  have hn : mN M a < 2 ^ 31 := I.2.2.1.2 a
  have he : (rW g ad M)[a]? = some (ad a, .inl (g.2.2.1.1, mN M a, .inl (mI M a))) := by rw [rW_get ha, rE_0 hk]
  refine va_iast hx hb hF.2.2.1 I.2.1.1 I.2.1.2 I.2.2.2.2.1 a 0 he rfl (vp_in_nI hj hn) hd ?_
  rw [nI_clamp (Nat.lt_trans hj hn), rW_sI0 hk]
  intro H1 locs1 p1 d1 s1
  exact k.2 ok ad H1 locs1 cells slots ls ⟨I.1, ⟨p1, d1⟩, I.2.2.1, I.2.2.2.1, s1, I.2.2.2.2.2⟩ hs.2.2.2
theorem ew_zaload {a : Nat} {i : Int32} (j : Nat) (hd : decode Y.2.1 pc = .ok (.baload, 1)) (hk : mK M a = 1) (hi : i = nI j) (hj : j < mN M a) (k : EW Y g X Z (pc + 1) L (.int (mI M a j) :: st) M) : EW Y g X Z pc L (.int i :: .ref a :: st) M := by
  refine ⟨k.1, fun ok ad H locs cells slots ls I hs => ?_⟩
  obtain ⟨hx, hb, hml, hown, hr, hlk, hEx, hnm, hst, hF, hg0, -⟩ := id ok
  subst hi
  have ha : a < mS M := hs.2.1
  have hn : mN M a < 2 ^ 31 := I.2.2.1.2 a
  have he : (rW g ad M)[a]? = some (ad a, .inl (g.2.2.1.2.1, mN M a, .inl (mI M a))) := by rw [rW_get ha, rE_1 hk]
  refine va_zald hx hb hF.2.2.1 I.2.1.1 a 1 he rfl (vp_in_nI hj hn) hd ?_
  rw [nI_clamp (Nat.lt_trans hj hn)]
  exact k.2 ok ad H locs cells slots ls I ⟨trivial, hs.2.2⟩
theorem rW_sI1 {ad : Nat → Nat} {a j : Nat} {x : Int32} (hk : mK M a = 1) : (rW g ad M).set a (ad a, .inl (g.2.2.1.2.1, mN M a, .inl (upd (mI M a) j x))) = rW g ad (sI M a j x) := by
  have e : rE g ad (sI M a j x) a = .inl (g.2.2.1.2.1, mN M a, .inl (upd (mI M a) j x)) := by
    rw [rE_1 (M := sI M a j x) hk]
    show (.inl (g.2.2.1.2.1, mN M a, .inl (up2 (mI M) a j x a)) : va_E) = _
    rw [up2_I]
  rw [← e]
  exact rW_set rfl (fun i hi => rE_congr rfl rfl (up2_ne hi) rfl rfl)
theorem ew_zastore {a : Nat} {i : Int32} {x : Int32} (j : Nat) (hd : decode Y.2.1 pc = .ok (.bastore, 1)) (hk : mK M a = 1) (hi : i = nI j) (hj : j < mN M a) (k : EW Y g X Z (pc + 1) L st (sI M a j (vp_nar .boolean x))) : EW Y g X Z pc L (.int x :: .int i :: .ref a :: st) M := by
  refine ⟨k.1, fun ok ad H locs cells slots ls I hs => ?_⟩
  obtain ⟨hx, hb, hml, hown, hr, hlk, hEx, hnm, hst, hF, hg0, -⟩ := id ok
  subst hi
  have ha : a < mS M := hs.2.2.1
  have hn : mN M a < 2 ^ 31 := I.2.2.1.2 a
  have he : (rW g ad M)[a]? = some (ad a, .inl (g.2.2.1.2.1, mN M a, .inl (mI M a))) := by rw [rW_get ha, rE_1 hk]
  refine va_zast hx hb hF.2.2.1 I.2.1.1 I.2.1.2 I.2.2.2.2.1 a 1 he rfl (vp_in_nI hj hn) hd ?_
  rw [nI_clamp (Nat.lt_trans hj hn), rW_sI1 hk]
  intro H1 locs1 p1 d1 s1
  exact k.2 ok ad H1 locs1 cells slots ls ⟨I.1, ⟨p1, d1⟩, I.2.2.1, I.2.2.2.1, s1, I.2.2.2.2.2⟩ hs.2.2.2
theorem ew_laload {a : Nat} {i : Int32} (j : Nat) (hd : decode Y.2.1 pc = .ok (.laload, 1)) (hk : mK M a = 2) (hi : i = nI j) (hj : j < mN M a) (k : EW Y g X Z (pc + 1) L (.long (mL M a j) :: st) M) : EW Y g X Z pc L (.int i :: .ref a :: st) M := by
  refine ⟨k.1, fun ok ad H locs cells slots ls I hs => ?_⟩
  obtain ⟨hx, hb, hml, hown, hr, hlk, hEx, hnm, hst, hF, hg0, -⟩ := id ok
  subst hi
  have ha : a < mS M := hs.2.1
  have hn : mN M a < 2 ^ 31 := I.2.2.1.2 a
  have he : (rW g ad M)[a]? = some (ad a, .inl (g.2.2.1.2.2, mN M a, .inr (.inl (mL M a)))) := by rw [rW_get ha, rE_2 hk]
  refine va_lald hx hb hF.2.2.1 I.2.1.1 a 2 he rfl (vp_in_nI hj hn) hd ?_
  rw [nI_clamp (Nat.lt_trans hj hn)]
  exact k.2 ok ad H locs cells slots ls I ⟨trivial, hs.2.2⟩
theorem rW_sL2 {ad : Nat → Nat} {a j : Nat} {x : Int64} (hk : mK M a = 2) : (rW g ad M).set a (ad a, .inl (g.2.2.1.2.2, mN M a, .inr (.inl (vp_updL (mL M a) j x)))) = rW g ad (sL M a j x) := by
  have e : rE g ad (sL M a j x) a = .inl (g.2.2.1.2.2, mN M a, .inr (.inl (vp_updL (mL M a) j x))) := by
    rw [rE_2 (M := sL M a j x) hk]
    show (.inl (g.2.2.1.2.2, mN M a, .inr (.inl (up2 (mL M) a j x a))) : va_E) = _
    rw [up2_L]
  rw [← e]
  exact rW_set rfl (fun i hi => rE_congr rfl rfl rfl (up2_ne hi) rfl)
theorem ew_lastore {a : Nat} {i : Int32} {x : Int64} (j : Nat) (hd : decode Y.2.1 pc = .ok (.lastore, 1)) (hk : mK M a = 2) (hi : i = nI j) (hj : j < mN M a) (k : EW Y g X Z (pc + 1) L st (sL M a j (x))) : EW Y g X Z pc L (.long x :: .int i :: .ref a :: st) M := by
  refine ⟨k.1, fun ok ad H locs cells slots ls I hs => ?_⟩
  obtain ⟨hx, hb, hml, hown, hr, hlk, hEx, hnm, hst, hF, hg0, -⟩ := id ok
  subst hi
  have ha : a < mS M := hs.2.2.1
  have hn : mN M a < 2 ^ 31 := I.2.2.1.2 a
  have he : (rW g ad M)[a]? = some (ad a, .inl (g.2.2.1.2.2, mN M a, .inr (.inl (mL M a)))) := by rw [rW_get ha, rE_2 hk]
  refine va_last hx hb hF.2.2.1 I.2.1.1 I.2.1.2 I.2.2.2.2.1 a 2 he rfl (vp_in_nI hj hn) hd ?_
  rw [nI_clamp (Nat.lt_trans hj hn), rW_sL2 hk]
  intro H1 locs1 p1 d1 s1
  exact k.2 ok ad H1 locs1 cells slots ls ⟨I.1, ⟨p1, d1⟩, I.2.2.1, I.2.2.2.1, s1, I.2.2.2.2.2⟩ hs.2.2.2
theorem ew_alen {a : Nat} (hd : decode Y.2.1 pc = .ok (.arraylength, 1)) (hk : mK M a < 3) (k : EW Y g X Z (pc + 1) L (.int (nI (mN M a)) :: st) M) : EW Y g X Z pc L (.ref a :: st) M := by
  refine ⟨k.1, fun ok ad H locs cells slots ls I hs => ?_⟩
  obtain ⟨hx, hb, hml, hown, hr, hlk, hEx, hnm, hst, hF, hg0, -⟩ := id ok
  have ha : a < mS M := hs.1
  have K := k.2 ok ad H locs cells slots ls I ⟨trivial, hs.2⟩
  rcases (show mK M a = 0 ∨ mK M a = 1 ∨ mK M a = 2 by omega) with e | e | e
  · exact va_alen (x := (mN M a, .inl (mI M a))) hx hb hF.2.2.1 I.2.1.1 a 0 (by rw [rW_get ha, rE_0 e]) rfl rfl hd K
  · exact va_alen (x := (mN M a, .inl (mI M a))) hx hb hF.2.2.1 I.2.1.1 a 1 (by rw [rW_get ha, rE_1 e]) rfl rfl hd K
  · exact va_alen (x := (mN M a, .inr (.inl (mL M a)))) hx hb hF.2.2.1 I.2.1.1 a 2 (by rw [rW_get ha, rE_2 e]) rfl rfl hd K
theorem wfM_nA {kd n : Nat} (hw : wfM M) (hkd : kd < 3) (hn : n < 2 ^ 31) : wfM (nA M kd n) := by
  refine ⟨fun k hk h3 j => ?_, fun k => ?_⟩
  · have hk' : k < mS M + 1 := hk
    have h3' : 3 ≤ va_up (mK M) (mS M) kd k := h3
    show wfV (mS M + 1) (mF M k j)
    by_cases e : k = mS M
    · subst e
      rw [va_up_self] at h3'
      omega
    · rw [va_up_ne _ _ e] at h3'
      exact wfV_mono (Nat.le_succ _) (hw.1 k (by omega) h3' j)
  · show va_up (mN M) (mS M) n k < 2 ^ 31
    by_cases e : k = mS M
    · subst e
      rw [va_up_self]
      exact hn
    · rw [va_up_ne _ _ e]
      exact hw.2 k
theorem ad_up {ad : Nat → Nat} {n q : Nat} : ∀ k, k < n → va_up ad n q k = ad k := fun k hk => va_up_ne _ _ (Nat.ne_of_lt hk)
theorem ew_newarray_i {i : Int32} (n : Nat) (hd : decode Y.2.1 pc = .ok (.newarray .int, 2)) (hi : i = nI n) (hn : n ≤ 67108864) (k : EW Y g X Z (pc + 2) L (.ref (mS M) :: st) (nA M 0 n)) : EW Y g X Z pc L (.int i :: st) M := by
  refine ⟨⟨Nat.le_trans (Nat.le_succ _) k.1.1, Nat.le_trans (Nat.le_add_right _ _) k.1.2.1, Nat.le_trans (Nat.le_succ _) k.1.2.2⟩, fun ok ad H locs cells slots ls I hs => ?_⟩
  obtain ⟨hx, hb, hml, hown, hr, hlk, hEx, hnm, hst, hF, hg0, hfr, hlo, hRc, hRs⟩ := id ok
  have k1 : mC M + 1 ≤ mC (zf Z) := k.1.1
  have k2 : mT M + n ≤ mT (zf Z) := k.1.2.1
  have c1 := I.2.2.2.2.2.2.1
  have c2 := I.2.2.2.2.2.2.2
  subst hi
  have hn31 : n < 2 ^ 31 := by omega
  refine va_newa (atype := .int) (a0 := (n, .inl (fun _ => 0))) (N' := n) (ty := .int) hx hb (hF.word qAr_i _) rfl hF.2.2.1 I.2.1.1 I.2.1.2 I.2.2.2.2.1 (fun q hq => Nat.le_trans hg0 hq) (fun cA => rfl) (nI_pos hn31) (nI_clamp hn31) (by show n * _ ≤ _; simp [componentBytes]; omega) (by omega) (by omega) hd ?_
  intro q cA H1 hK1 p1 d1 s1
  have e1 : cA = g.2.2.1.1 := by
    have h3 := (hK1.2 3 (cA, .int) rfl).2
    have h0 := (hF.2.2.1.2 0 (g.2.2.1.1, .int) rfl).2
    exact Option.some.inj (Eq.trans (Eq.symm h3) h0)
  rw [e1] at p1 d1
  have e2 : rE g (va_up ad (mS M) q) (nA M 0 n) (mS M) = .inl (g.2.2.1.1, (n, .inl (fun _ => 0))) := by
    have hk9 : mK (nA M 0 n) (mS M) = 0 := va_up_self _ _ _
    rw [rE_0 hk9]
    have h5 : mN (nA M 0 n) (mS M) = n := va_up_self _ _ _
    have h6 : mI (nA M 0 n) (mS M) = (fun _ => 0) := va_up_self _ _ _
    rw [h5, h6]
  have e3 : rW g ad M ++ [(q, .inl (g.2.2.1.1, (n, .inl (fun _ => 0))))] = rW g (va_up ad (mS M) q) (nA M 0 n) := by
    rw [← e2]
    refine rW_push rfl (va_up_self _ _ _) (fun j hj => ⟨ad_up j hj, ?_⟩)
    rw [← rE_ext I.2.2.1 (ad_up (q := q)) hj]
    exact rE_congr (va_up_ne' hj) (va_up_ne' hj) (va_up_ne' hj) (va_up_ne' hj) rfl
  rw [e3] at p1 d1
  have K := k.2 ok (va_up ad (mS M) q) H1 locs (cells + 1) (slots + n) ls ⟨⟨Nat.le_trans I.1.1 (Nat.le_succ _), fun j hj => (ad_up j (Nat.lt_of_lt_of_le hj I.1.1)).trans (I.1.2 j hj)⟩, ⟨p1, d1⟩, wfM_nA I.2.2.1 (by decide) hn31, wfL_mono (Nat.le_succ _) I.2.2.2.1, s1, by rw [rL_ext (ad_up (q := q)) I.2.2.2.1]; exact I.2.2.2.2.2.1, by show cells + 1 + _ = mC M + 1; omega, by show slots + n + _ = mT M + n; omega⟩ ⟨Nat.lt_succ_self _, wfS_mono (Nat.le_succ _) hs.2⟩
  rw [List.map_cons, rS_ext (ad_up (q := q)) hs.2, show rV g (va_up ad (mS M) q) (.ref (mS M)) = .ref q from congrArg Value.ref (va_up_self _ _ _)] at K
  exact K
theorem ew_newarray_z {i : Int32} (n : Nat) (hd : decode Y.2.1 pc = .ok (.newarray .boolean, 2)) (hi : i = nI n) (hn : n ≤ 67108864) (k : EW Y g X Z (pc + 2) L (.ref (mS M) :: st) (nA M 1 n)) : EW Y g X Z pc L (.int i :: st) M := by
  refine ⟨⟨Nat.le_trans (Nat.le_succ _) k.1.1, Nat.le_trans (Nat.le_add_right _ _) k.1.2.1, Nat.le_trans (Nat.le_succ _) k.1.2.2⟩, fun ok ad H locs cells slots ls I hs => ?_⟩
  obtain ⟨hx, hb, hml, hown, hr, hlk, hEx, hnm, hst, hF, hg0, hfr, hlo, hRc, hRs⟩ := id ok
  have k1 : mC M + 1 ≤ mC (zf Z) := k.1.1
  have k2 : mT M + n ≤ mT (zf Z) := k.1.2.1
  have c1 := I.2.2.2.2.2.2.1
  have c2 := I.2.2.2.2.2.2.2
  subst hi
  have hn31 : n < 2 ^ 31 := by omega
  refine va_newa (atype := .boolean) (a0 := (n, .inl (fun _ => 0))) (N' := n) (ty := .boolean) hx hb (hF.word qAr_z _) rfl hF.2.2.1 I.2.1.1 I.2.1.2 I.2.2.2.2.1 (fun q hq => Nat.le_trans hg0 hq) (fun cA => rfl) (nI_pos hn31) (nI_clamp hn31) (by show n * _ ≤ _; simp [componentBytes]; omega) (by omega) (by omega) hd ?_
  intro q cA H1 hK1 p1 d1 s1
  have e1 : cA = g.2.2.1.2.1 := by
    have h3 := (hK1.2 3 (cA, .boolean) rfl).2
    have h0 := (hF.2.2.1.2 1 (g.2.2.1.2.1, .boolean) rfl).2
    exact Option.some.inj (Eq.trans (Eq.symm h3) h0)
  rw [e1] at p1 d1
  have e2 : rE g (va_up ad (mS M) q) (nA M 1 n) (mS M) = .inl (g.2.2.1.2.1, (n, .inl (fun _ => 0))) := by
    have hk9 : mK (nA M 1 n) (mS M) = 1 := va_up_self _ _ _
    rw [rE_1 hk9]
    have h5 : mN (nA M 1 n) (mS M) = n := va_up_self _ _ _
    have h6 : mI (nA M 1 n) (mS M) = (fun _ => 0) := va_up_self _ _ _
    rw [h5, h6]
  have e3 : rW g ad M ++ [(q, .inl (g.2.2.1.2.1, (n, .inl (fun _ => 0))))] = rW g (va_up ad (mS M) q) (nA M 1 n) := by
    rw [← e2]
    refine rW_push rfl (va_up_self _ _ _) (fun j hj => ⟨ad_up j hj, ?_⟩)
    rw [← rE_ext I.2.2.1 (ad_up (q := q)) hj]
    exact rE_congr (va_up_ne' hj) (va_up_ne' hj) (va_up_ne' hj) (va_up_ne' hj) rfl
  rw [e3] at p1 d1
  have K := k.2 ok (va_up ad (mS M) q) H1 locs (cells + 1) (slots + n) ls ⟨⟨Nat.le_trans I.1.1 (Nat.le_succ _), fun j hj => (ad_up j (Nat.lt_of_lt_of_le hj I.1.1)).trans (I.1.2 j hj)⟩, ⟨p1, d1⟩, wfM_nA I.2.2.1 (by decide) hn31, wfL_mono (Nat.le_succ _) I.2.2.2.1, s1, by rw [rL_ext (ad_up (q := q)) I.2.2.2.1]; exact I.2.2.2.2.2.1, by show cells + 1 + _ = mC M + 1; omega, by show slots + n + _ = mT M + n; omega⟩ ⟨Nat.lt_succ_self _, wfS_mono (Nat.le_succ _) hs.2⟩
  rw [List.map_cons, rS_ext (ad_up (q := q)) hs.2, show rV g (va_up ad (mS M) q) (.ref (mS M)) = .ref q from congrArg Value.ref (va_up_self _ _ _)] at K
  exact K
theorem ew_newarray_l {i : Int32} (n : Nat) (hd : decode Y.2.1 pc = .ok (.newarray .long, 2)) (hi : i = nI n) (hn : n ≤ 67108864) (k : EW Y g X Z (pc + 2) L (.ref (mS M) :: st) (nA M 2 n)) : EW Y g X Z pc L (.int i :: st) M := by
  refine ⟨⟨Nat.le_trans (Nat.le_succ _) k.1.1, Nat.le_trans (Nat.le_add_right _ _) k.1.2.1, Nat.le_trans (Nat.le_succ _) k.1.2.2⟩, fun ok ad H locs cells slots ls I hs => ?_⟩
  obtain ⟨hx, hb, hml, hown, hr, hlk, hEx, hnm, hst, hF, hg0, hfr, hlo, hRc, hRs⟩ := id ok
  have k1 : mC M + 1 ≤ mC (zf Z) := k.1.1
  have k2 : mT M + n ≤ mT (zf Z) := k.1.2.1
  have c1 := I.2.2.2.2.2.2.1
  have c2 := I.2.2.2.2.2.2.2
  subst hi
  have hn31 : n < 2 ^ 31 := by omega
  refine va_newa (atype := .long) (a0 := (n, .inr (.inl (fun _ => 0)))) (N' := n) (ty := .long) hx hb (hF.word qAr_l _) rfl hF.2.2.1 I.2.1.1 I.2.1.2 I.2.2.2.2.1 (fun q hq => Nat.le_trans hg0 hq) (fun cA => rfl) (nI_pos hn31) (nI_clamp hn31) (by show n * _ ≤ _; simp [componentBytes]; omega) (by omega) (by omega) hd ?_
  intro q cA H1 hK1 p1 d1 s1
  have e1 : cA = g.2.2.1.2.2 := by
    have h3 := (hK1.2 3 (cA, .long) rfl).2
    have h0 := (hF.2.2.1.2 2 (g.2.2.1.2.2, .long) rfl).2
    exact Option.some.inj (Eq.trans (Eq.symm h3) h0)
  rw [e1] at p1 d1
  have e2 : rE g (va_up ad (mS M) q) (nA M 2 n) (mS M) = .inl (g.2.2.1.2.2, (n, .inr (.inl (fun _ => 0)))) := by
    have hk9 : mK (nA M 2 n) (mS M) = 2 := va_up_self _ _ _
    rw [rE_2 hk9]
    have h5 : mN (nA M 2 n) (mS M) = n := va_up_self _ _ _
    have h6 : mL (nA M 2 n) (mS M) = (fun _ => 0) := va_up_self _ _ _
    rw [h5, h6]
  have e3 : rW g ad M ++ [(q, .inl (g.2.2.1.2.2, (n, .inr (.inl (fun _ => 0)))))] = rW g (va_up ad (mS M) q) (nA M 2 n) := by
    rw [← e2]
    refine rW_push rfl (va_up_self _ _ _) (fun j hj => ⟨ad_up j hj, ?_⟩)
    rw [← rE_ext I.2.2.1 (ad_up (q := q)) hj]
    exact rE_congr (va_up_ne' hj) (va_up_ne' hj) (va_up_ne' hj) (va_up_ne' hj) rfl
  rw [e3] at p1 d1
  have K := k.2 ok (va_up ad (mS M) q) H1 locs (cells + 1) (slots + n) ls ⟨⟨Nat.le_trans I.1.1 (Nat.le_succ _), fun j hj => (ad_up j (Nat.lt_of_lt_of_le hj I.1.1)).trans (I.1.2 j hj)⟩, ⟨p1, d1⟩, wfM_nA I.2.2.1 (by decide) hn31, wfL_mono (Nat.le_succ _) I.2.2.2.1, s1, by rw [rL_ext (ad_up (q := q)) I.2.2.2.1]; exact I.2.2.2.2.2.1, by show cells + 1 + _ = mC M + 1; omega, by show slots + n + _ = mT M + n; omega⟩ ⟨Nat.lt_succ_self _, wfS_mono (Nat.le_succ _) hs.2⟩
  rw [List.map_cons, rS_ext (ad_up (q := q)) hs.2, show rV g (va_up ad (mS M) q) (.ref (mS M)) = .ref q from congrArg Value.ref (va_up_self _ _ _)] at K
  exact K
theorem rV_df (ad : Nat → Nat) (ty : FieldType) : rV g ad (defaultValue ty) = defaultValue ty := by cases ty <;> rfl
theorem wfV_df (n : Nat) (ty : FieldType) : wfV n (defaultValue ty) := by cases ty <;> trivial
theorem wfM_nO {ci : Nat} (hw : wfM M) : wfM (nO M ci) := by
  refine ⟨fun k hk h3 j => ?_, hw.2⟩
  have hk' : k < mS M + 1 := hk
  have h3' : 3 ≤ va_up (mK M) (mS M) (ci + 3) k := h3
  show wfV (mS M + 1) (va_up (mF M) (mS M) (qDf ci) k j)
  by_cases e : k = mS M
  · subst e
    rw [va_up_self]
    exact wfV_df _ _
  · rw [va_up_ne _ _ e] at h3' ⊢
    exact wfV_mono (Nat.le_succ _) (hw.1 k (by omega) h3' j)
theorem ew_new {ix : Nat} (ci : Nat) (hd : decode Y.2.1 pc = .ok (.new ix, 3)) (hf : qNw Y.1.cls ix ci) (k : EW Y g X Z (pc + 3) L (.ref (mS M) :: st) (nO M ci)) : EW Y g X Z pc L st M := by
  refine ⟨⟨Nat.le_trans (Nat.le_succ _) k.1.1, Nat.le_trans (Nat.le_add_right _ _) k.1.2.1, Nat.le_trans (Nat.le_succ _) k.1.2.2⟩, fun ok ad H locs cells slots ls I hs => ?_⟩
  obtain ⟨C, T, N, hc, hcl, hinst, hini⟩ := hf
  obtain ⟨hx, hb, hml, hown, hr, hlk, hEx, hnm, hst, hF, hg0, hfr, hlo, hRc, hRs⟩ := id ok
  have hN : qNf ci = N := by simp [qNf, hc]
  have k1 : mC M + 1 ≤ mC (zf Z) := k.1.1
  have k2 : mT M + qNf ci ≤ mT (zf Z) := k.1.2.1
  have c1 := I.2.2.2.2.2.2.1
  have c2 := I.2.2.2.2.2.2.2
  have hts : ∀ w ∈ qTT, w.before (xa X) (xs X) = true := fun w hw => hF.word hw _
  refine va_new (ci := ci) (fs := (List.range (qNf ci)).map (fun j => defaultValue (qTy ci j))) (C := C) (T := T) (N := N) hx hb hts (qCl_ws ci C T N hc) (qTy ci) (qTy_ok ci C T N hc) hown (hts _ hcl) (hts _ hinst) (hts _ hini) hF.2.2.1 I.2.1.1 I.2.1.2 I.2.2.2.2.1 (fun q hq => Nat.le_trans hg0 hq) hc (fun j hj => by simp [vp_V, List.getD, hN, hj]) (by omega) (by omega) hd ?_
  intro q H1 p1 d1 s1
  have e2 : rE g (va_up ad (mS M) q) (nO M ci) (mS M) = .inr (ci, (List.range (qNf ci)).map (fun j => defaultValue (qTy ci j))) := by
    have hk9 : mK (nO M ci) (mS M) = ci + 3 := va_up_self _ _ _
    rw [rE_3 hk9]
    have h6 : mF (nO M ci) (mS M) = qDf ci := va_up_self _ _ _
    rw [h6]
    congr 2
    apply List.map_congr_left
    intro j _
    exact rV_df _ _
  have e3 : rW g ad M ++ [(q, .inr (ci, (List.range (qNf ci)).map (fun j => defaultValue (qTy ci j))))] = rW g (va_up ad (mS M) q) (nO M ci) := by
    rw [← e2]
    refine rW_push rfl (va_up_self _ _ _) (fun j hj => ⟨ad_up j hj, ?_⟩)
    rw [← rE_ext I.2.2.1 (ad_up (q := q)) hj]
    exact rE_congr (va_up_ne' hj) rfl rfl rfl (va_up_ne' hj)
  rw [e3] at p1 d1
  have K := k.2 ok (va_up ad (mS M) q) H1 locs (cells + 1) (slots + N) ls ⟨⟨Nat.le_trans I.1.1 (Nat.le_succ _), fun j hj => (ad_up j (Nat.lt_of_lt_of_le hj I.1.1)).trans (I.1.2 j hj)⟩, ⟨p1, d1⟩, wfM_nO I.2.2.1, wfL_mono (Nat.le_succ _) I.2.2.2.1, s1, by rw [rL_ext (ad_up (q := q)) I.2.2.2.1]; exact I.2.2.2.2.2.1, by show cells + 1 + _ = mC M + 1; omega, by show slots + N + _ = mT M + qNf ci; omega⟩ ⟨Nat.lt_succ_self _, wfS_mono (Nat.le_succ _) hs⟩
  rw [List.map_cons, rS_ext (ad_up (q := q)) hs, show rV g (va_up ad (mS M) q) (.ref (mS M)) = .ref q from congrArg Value.ref (va_up_self _ _ _)] at K
  exact K
theorem ew_ireturn {v : Int32} (hd : decode Y.2.1 pc = .ok (.ireturn, 1)) (hy : Y.2.2.2 = some .int) (hz : zr Z = .inl (some (.int v))) (hm : zf Z = M) : EW Y g X Z pc L [.int v] M := by
  refine ⟨by rw [hm]; exact ⟨Nat.le_refl _, Nat.le_refl _, Nat.le_refl _⟩, fun ok ad H locs cells slots ls I hs => ?_⟩
  obtain ⟨hx, hb, hml, hown, hr, hlk, hEx, hnm, hst, hF, hg0, hfr, hlo, hRc, hRs⟩ := id ok
  have c1 := I.2.2.2.2.2.2.1
  have c2 := I.2.2.2.2.2.2.2
  have e1 : cells = mC (zf Z) - mC (z0 Z) := by rw [hm]; omega
  have e2 : slots = mT (zf Z) - mT (z0 Z) := by rw [hm]; omega
  have K := W.iret (Qc := fun _ st o t => (∃ (v : Option Value) (ad : Nat → Nat), zr Z = .inl v ∧ o = .returned (v.map (rV g ad)) ∧ (∀ k, k < mS (z0 Z) → ad k = za Z k) ∧ qR g ad (zf Z) t.heap ∧ wfM (zf Z) ∧ wfS (mS (zf Z)) v.toList) ∧ va_F (qA g) st t) (free := qA g) (p := xp X) (l := xl X) (e := xe X) (R := xR X) (s := xs X) (m := xm X) (args := xa X) (below := xb X) (meth := xh X) (c := xc X) (H := H) (locs := locs) (cells := cells) (slots := slots) (ls := ls) hx hb (hr.trans hy) (fun t ht hW => ⟨⟨some (.int v), ad, hz, rfl, I.1.2, by rw [ht, hm]; exact I.2.1, by rw [hm]; exact I.2.2.1, by rw [hm]; exact ⟨trivial, trivial⟩⟩, I.2.2.2.2.1.F ht⟩) I.2.2.2.2.1.2.2 hd hlk
  intro T hT X0
  obtain ⟨t, a1, o, b1, b2, b3, b4⟩ := K T hT X0
  refine ⟨t, a1, o, b1, b2, Or.inl ⟨b3.1, b3.2, ?_⟩⟩
  rw [← e1, ← e2]
  exact b4
theorem ew_zreturn {v : Int32} (hd : decode Y.2.1 pc = .ok (.ireturn, 1)) (hy : Y.2.2.2 = some .boolean) (hz : zr Z = .inl (some (.int v))) (hm : zf Z = M) (hb1 : narrow .boolean (.int v) = .int v) : EW Y g X Z pc L [.int v] M := by
  refine ⟨by rw [hm]; exact ⟨Nat.le_refl _, Nat.le_refl _, Nat.le_refl _⟩, fun ok ad H locs cells slots ls I hs => ?_⟩
  obtain ⟨hx, hb, hml, hown, hr, hlk, hEx, hnm, hst, hF, hg0, hfr, hlo, hRc, hRs⟩ := id ok
  have c1 := I.2.2.2.2.2.2.1
  have c2 := I.2.2.2.2.2.2.2
  have e1 : cells = mC (zf Z) - mC (z0 Z) := by rw [hm]; omega
  have e2 : slots = mT (zf Z) - mT (z0 Z) := by rw [hm]; omega
  have K := W.zret (Qc := fun _ st o t => (∃ (v : Option Value) (ad : Nat → Nat), zr Z = .inl v ∧ o = .returned (v.map (rV g ad)) ∧ (∀ k, k < mS (z0 Z) → ad k = za Z k) ∧ qR g ad (zf Z) t.heap ∧ wfM (zf Z) ∧ wfS (mS (zf Z)) v.toList) ∧ va_F (qA g) st t) (free := qA g) (p := xp X) (l := xl X) (e := xe X) (R := xR X) (s := xs X) (m := xm X) (args := xa X) (below := xb X) (meth := xh X) (c := xc X) (H := H) (locs := locs) (cells := cells) (slots := slots) (ls := ls) hx hb (hr.trans hy) hb1 (fun t ht hW => ⟨⟨some (.int v), ad, hz, rfl, I.1.2, by rw [ht, hm]; exact I.2.1, by rw [hm]; exact I.2.2.1, by rw [hm]; exact ⟨trivial, trivial⟩⟩, I.2.2.2.2.1.F ht⟩) I.2.2.2.2.1.2.2 hd hlk
  intro T hT X0
  obtain ⟨t, a1, o, b1, b2, b3, b4⟩ := K T hT X0
  refine ⟨t, a1, o, b1, b2, Or.inl ⟨b3.1, b3.2, ?_⟩⟩
  rw [← e1, ← e2]
  exact b4
theorem ew_lreturn {v : Int64} (hd : decode Y.2.1 pc = .ok (.lreturn, 1)) (hy : Y.2.2.2 = some .long) (hz : zr Z = .inl (some (.long v))) (hm : zf Z = M) : EW Y g X Z pc L [.long v] M := by
  refine ⟨by rw [hm]; exact ⟨Nat.le_refl _, Nat.le_refl _, Nat.le_refl _⟩, fun ok ad H locs cells slots ls I hs => ?_⟩
  obtain ⟨hx, hb, hml, hown, hr, hlk, hEx, hnm, hst, hF, hg0, hfr, hlo, hRc, hRs⟩ := id ok
  have c1 := I.2.2.2.2.2.2.1
  have c2 := I.2.2.2.2.2.2.2
  have e1 : cells = mC (zf Z) - mC (z0 Z) := by rw [hm]; omega
  have e2 : slots = mT (zf Z) - mT (z0 Z) := by rw [hm]; omega
  have K := W.lret (Qc := fun _ st o t => (∃ (v : Option Value) (ad : Nat → Nat), zr Z = .inl v ∧ o = .returned (v.map (rV g ad)) ∧ (∀ k, k < mS (z0 Z) → ad k = za Z k) ∧ qR g ad (zf Z) t.heap ∧ wfM (zf Z) ∧ wfS (mS (zf Z)) v.toList) ∧ va_F (qA g) st t) (free := qA g) (p := xp X) (l := xl X) (e := xe X) (R := xR X) (s := xs X) (m := xm X) (args := xa X) (below := xb X) (meth := xh X) (c := xc X) (H := H) (locs := locs) (cells := cells) (slots := slots) (ls := ls) hx hb (hr.trans hy) (fun t ht hW => ⟨⟨some (.long v), ad, hz, rfl, I.1.2, by rw [ht, hm]; exact I.2.1, by rw [hm]; exact I.2.2.1, by rw [hm]; exact ⟨trivial, trivial⟩⟩, I.2.2.2.2.1.F ht⟩) I.2.2.2.2.1.2.2 hd hlk
  intro T hT X0
  obtain ⟨t, a1, o, b1, b2, b3, b4⟩ := K T hT X0
  refine ⟨t, a1, o, b1, b2, Or.inl ⟨b3.1, b3.2, ?_⟩⟩
  rw [← e1, ← e2]
  exact b4
theorem ew_return (hd : decode Y.2.1 pc = .ok (.return_, 1)) (hy : Y.2.2.2 = none) (hz : zr Z = .inl (none)) (hm : zf Z = M) : EW Y g X Z pc L [] M := by
  refine ⟨by rw [hm]; exact ⟨Nat.le_refl _, Nat.le_refl _, Nat.le_refl _⟩, fun ok ad H locs cells slots ls I hs => ?_⟩
  obtain ⟨hx, hb, hml, hown, hr, hlk, hEx, hnm, hst, hF, hg0, hfr, hlo, hRc, hRs⟩ := id ok
  have c1 := I.2.2.2.2.2.2.1
  have c2 := I.2.2.2.2.2.2.2
  have e1 : cells = mC (zf Z) - mC (z0 Z) := by rw [hm]; omega
  have e2 : slots = mT (zf Z) - mT (z0 Z) := by rw [hm]; omega
  have K := W.vret (Qc := fun _ st o t => (∃ (v : Option Value) (ad : Nat → Nat), zr Z = .inl v ∧ o = .returned (v.map (rV g ad)) ∧ (∀ k, k < mS (z0 Z) → ad k = za Z k) ∧ qR g ad (zf Z) t.heap ∧ wfM (zf Z) ∧ wfS (mS (zf Z)) v.toList) ∧ va_F (qA g) st t) (free := qA g) (p := xp X) (l := xl X) (e := xe X) (R := xR X) (s := xs X) (m := xm X) (args := xa X) (below := xb X) (meth := xh X) (c := xc X) (H := H) (locs := locs) (cells := cells) (slots := slots) (ls := ls) hx hb (hr.trans hy) (fun t ht hW => ⟨⟨none, ad, hz, rfl, I.1.2, by rw [ht, hm]; exact I.2.1, by rw [hm]; exact I.2.2.1, by rw [hm]; exact trivial⟩, I.2.2.2.2.1.F ht⟩) I.2.2.2.2.1.2.2 hd hlk
  intro T hT X0
  obtain ⟨t, a1, o, b1, b2, b3, b4⟩ := K T hT X0
  refine ⟨t, a1, o, b1, b2, Or.inl ⟨b3.1, b3.2, ?_⟩⟩
  rw [← e1, ← e2]
  exact b4
end EWH
/-- a contract: from M with these arguments the method comes to res, the memory then is Mf -/
def CT (Y : qY) (fr lo : Nat) (As : List Value) (M : PM) (res : Option Value ⊕ String) (Mf : PM) : Prop :=
  (∀ (_ : qG) (_ : qX), mC M ≤ mC Mf ∧ mT M ≤ mT Mf ∧ mS M ≤ mS Mf) ∧ ∀ (l : Launch) (g : qG) (ad : Nat → Nat), l.stackTraces = false → wfM M → wfS (mS M) As → MetFree l Y.1 (headSpec [Cond.code Y.1 Y.2.1 Y.2.2.1 Y.2.2.2] { frames := fr, cells := mC Mf - mC M, slots := mT Mf - mT M, locals := lo }) (va_Pc (As.map (rV g ad)) (fun U => g.1 ≤ U.heap.size ∧ qF g U U.heap ∧ qR g ad M U.heap)) (fun _ _ _ _ _ => True) (fun _ st o t => qEd g ad M res Mf st o t)
/-- the same of a method with handlers: from M with these arguments the method comes to res, the memory then is Mf -/
def CTw (Y : qY) (fr lo : Nat) (As : List Value) (M : PM) (res : Option Value ⊕ String) (Mf : PM) : Prop :=
  (∀ (_ : qG) (_ : qX), mC M ≤ mC Mf ∧ mT M ≤ mT Mf ∧ mS M ≤ mS Mf) ∧ ∀ (l : Launch) (g : qG) (ad : Nat → Nat), l.stackTraces = false → wfM M → wfS (mS M) As → MetFree l Y.1 (headSpec [Cond.codeWith Y.1 Y.2.1 Y.2.2.1 Y.2.2.2 (qHd Y)] { frames := fr, cells := mC Mf - mC M, slots := mT Mf - mT M, locals := lo }) (va_Pc (As.map (rV g ad)) (fun U => g.1 ≤ U.heap.size ∧ qF g U U.heap ∧ qR g ad M U.heap)) (fun _ _ _ _ _ => True) (fun _ st o t => qEd g ad M res Mf st o t)
theorem lv_args_r (g : qG) (ad : Nat → Nat) : ∀ (As : List Value) (i : Nat), lv_args i (As.map (rV g ad)) = rL g ad (lv_args i As) := by
  intro As
  induction As with
  | nil => intro i; rfl
  | cons v t ih =>
    intro i
    simp only [List.map_cons, lv_args, rV_cat, ih, rL]
theorem lg_sl_r (g : qG) (ad : Nat → Nat) : ∀ (As : List Value), (lg_sl (As.map (rV g ad))).length = (lg_sl As).length := by
  intro As
  induction As with
  | nil => rfl
  | cons v t ih =>
    have h1 : ∀ (u : Value) (r : List Value), (lg_sl (u :: r)).length = (if u.category = 2 then 2 else 1) + (lg_sl r).length := by
      intro u r
      by_cases h : u.category = 2 <;> simp [lg_sl, h] <;> omega
    rw [List.map_cons, h1, h1, rV_cat, ih]
theorem wf_args (n : Nat) : ∀ (As : List Value) (i : Nat), wfS n As → wfL n (lv_args i As) := by
  intro As
  induction As with
  | nil => intro i _ q hq; cases hq
  | cons v t ih =>
    intro i h q hq
    rcases List.mem_cons.mp hq with e | e
    · rw [e]; exact h.1
    · exact ih _ h.2 q e
theorem CT_of {Y : qY} {fr lo : Nat} {As : List Value} {M Mf : PM} {res : Option Value ⊕ String} (hp : plainName Y.1.cls = true) (hn : (lg_sl As).length ≤ Y.2.2.1) (h0 : qHd Y = [])
    (h : ∀ (g : qG) (X : qX) (ad0 : Nat → Nat), EW Y g X (ad0, M, res, Mf, fr, lo) 0 (lv_args 0 As) [] M) : CT Y fr lo As M res Mf := by
  refine ⟨fun g X => (h g X (fun j => j)).1, fun l g ad hst hwM hwA => ?_⟩
  refine MetFree.of_bodyS (code := Y.2.1) (maxLocals := Y.2.2.1) (ret := Y.2.2.2) hp ?_ ?_
  · intro args s m hh hn9
    obtain ⟨meth, c, h1, h2, h3, h4, h5, h6, -, -⟩ := Cond.code_spec hn9 (atoms_spec (ws := [Cond.code Y.1 Y.2.1 Y.2.2.1 Y.2.2.2]) hh _ (List.mem_singleton.mpr rfl))
    exact ⟨meth, c, h1, h2, h3, h4, h5, h6⟩
  · intro p e s m args below meth c s₁ B hml hv _
    obtain ⟨rfl, hg, hF, hR⟩ := hv
    have hh0 : s₁.heap = s.heap := by rw [B.state]; rfl
    have hEx : c.exceptionTable.toList.map (fun h => (h.startPc, h.endPc, h.handlerPc, h.catchType)) = qHd Y := by
      obtain ⟨meth9, c9, h1, h2, -, -, -, -, h7, -⟩ := Cond.code_spec B.named (atoms_spec (ws := [Cond.code Y.1 Y.2.1 Y.2.2.1 Y.2.2.2]) B.pre _ (List.mem_singleton.mpr rfl))
      cases Option.some.inj (h1.symm.trans B.method)
      cases Option.some.inj (h2.symm.trans (Stand.of_body B).code)
      rw [Array.isEmpty_iff.mp h7, h0]
      rfl
    have hl := lv_entry (As.map (rV g ad)) (n := Y.2.2.1) (by rw [lg_sl_r]; exact hn)
    rw [lv_args_r] at hl
    have K := (h g (p, l, e, ({ frames := fr, cells := mC Mf - mC M, slots := mT Mf - mT M, locals := lo } : Room), s, m, (As.map (rV g ad)).toArray, below, meth, c) ad).2 ⟨B.exec, B.bytes, hml, findClass_of_methodNamed B.named, B.returns, B.notSynchronized, hEx, (name_of_methodNamed B.named B.method).1, hst, hF, hg, Nat.le_refl _, Nat.le_refl _, Nat.le_refl _, Nat.le_refl _⟩ ad s.heap [] 0 0 _ ⟨⟨Nat.le_refl _, fun _ _ => rfl⟩, hR, hwM, wf_args _ As 0 hwA, va_S.rf, hl, Nat.zero_add _, Nat.zero_add _⟩ trivial
    rw [lg_entry_eq]
    obtain ⟨t, a1, o, b1, b2, b3⟩ := K s₁ hh0 (Stand.of_body B)
    exact ⟨t, o, a1, b1, b2, b3⟩
theorem CTw_of {Y : qY} {fr lo : Nat} {As : List Value} {M Mf : PM} {res : Option Value ⊕ String} (hp : plainName Y.1.cls = true) (hn : (lg_sl As).length ≤ Y.2.2.1)
    (h : ∀ (g : qG) (X : qX) (ad0 : Nat → Nat), EW Y g X (ad0, M, res, Mf, fr, lo) 0 (lv_args 0 As) [] M) : CTw Y fr lo As M res Mf := by
  refine ⟨fun g X => (h g X (fun j => j)).1, fun l g ad hst hwM hwA => ?_⟩
  refine MetFree.of_bodyS (code := Y.2.1) (maxLocals := Y.2.2.1) (ret := Y.2.2.2) hp ?_ ?_
  · intro args s m hh hn9
    obtain ⟨m9, meth, c, hn8, h1, h2, h3, h4, -, h5, h6, -⟩ := Cond.codeWith_spec (atoms_spec (ws := [Cond.codeWith Y.1 Y.2.1 Y.2.2.1 Y.2.2.2 (qHd Y)]) hh _ (List.mem_singleton.mpr rfl))
    cases Option.some.inj (hn9.symm.trans hn8)
    exact ⟨meth, c, h1, h2, h3, h4, h5, h6⟩
  · intro p e s m args below meth c s₁ B hml hv _
    obtain ⟨rfl, hg, hF, hR⟩ := hv
    have hh0 : s₁.heap = s.heap := by rw [B.state]; rfl
    have hEx : c.exceptionTable.toList.map (fun h => (h.startPc, h.endPc, h.handlerPc, h.catchType)) = qHd Y := by
      obtain ⟨m9, meth9, c9, hn8, h1, h2, -, -, h7, -⟩ := Cond.codeWith_spec (atoms_spec (ws := [Cond.codeWith Y.1 Y.2.1 Y.2.2.1 Y.2.2.2 (qHd Y)]) B.pre _ (List.mem_singleton.mpr rfl))
      cases Option.some.inj (hn8.symm.trans B.named)
      cases Option.some.inj (h1.symm.trans B.method)
      cases Option.some.inj (h2.symm.trans (Stand.of_body B).code)
      exact h7
    have hl := lv_entry (As.map (rV g ad)) (n := Y.2.2.1) (by rw [lg_sl_r]; exact hn)
    rw [lv_args_r] at hl
    have K := (h g (p, l, e, ({ frames := fr, cells := mC Mf - mC M, slots := mT Mf - mT M, locals := lo } : Room), s, m, (As.map (rV g ad)).toArray, below, meth, c) ad).2 ⟨B.exec, B.bytes, hml, findClass_of_methodNamed B.named, B.returns, B.notSynchronized, hEx, (name_of_methodNamed B.named B.method).1, hst, hF, hg, Nat.le_refl _, Nat.le_refl _, Nat.le_refl _, Nat.le_refl _⟩ ad s.heap [] 0 0 _ ⟨⟨Nat.le_refl _, fun _ _ => rfl⟩, hR, hwM, wf_args _ As 0 hwA, va_S.rf, hl, Nat.zero_add _, Nat.zero_add _⟩ trivial
    rw [lg_entry_eq]
    obtain ⟨t, a1, o, b1, b2, b3⟩ := K s₁ hh0 (Stand.of_body B)
    exact ⟨t, o, a1, b1, b2, b3⟩
