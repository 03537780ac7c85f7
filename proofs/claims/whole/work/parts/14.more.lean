def iR (x y : Int32) (k : Int32 → qO) : qO := if y = 0 then none else k (x - x / y * y)
theorem iR_inv {x y : Int32} {k : Int32 → qO} {r : qRs × PM} (h : iR x y k = some r) : ∃ v, ¬ y = 0 ∧ v = x - x / y * y ∧ k v = some r := by
  unfold iR at h
  split at h
  · cases h
  · exact ⟨_, by assumption, rfl, h⟩
def sc (xs : Nat → Int32) (Ls : Nat) (i : Int32) (k : Int32 → qO) : qO := if ¬ i < 0 ∧ i.toNatClampNeg < Ls then k (xs i.toNatClampNeg) else none
theorem sc_inv {xs : Nat → Int32} {Ls : Nat} {i : Int32} {k : Int32 → qO} {r : qRs × PM} (h : sc xs Ls i k = some r) : ∃ v, (¬ i < 0 ∧ i.toNatClampNeg < Ls) ∧ v = xs i.toNatClampNeg ∧ k v = some r := by
  unfold sc at h
  split at h
  · exact ⟨_, by assumption, rfl, h⟩
  · cases h
def tb (i : Int32) (k : Int64 → qO) : qO := if ¬ i < 0 ∧ i.toNatClampNeg < 6 then k (qCol i.toNatClampNeg) else none
theorem tb_inv {i : Int32} {k : Int64 → qO} {r : qRs × PM} (h : tb i k = some r) : ∃ v, (¬ i < 0 ∧ i.toNatClampNeg < 6) ∧ v = qCol i.toNatClampNeg ∧ k v = some r := by
  unfold tb at h
  split at h
  · exact ⟨_, by assumption, rfl, h⟩
  · cases h
def sA (M : PM) (a : Nat) (f : Nat → Int32) : PM := (mS M, mK M, mN M, va_up (mI M) a f, mL M, mF M, mC M, mT M)
abbrev cpOk (M : PM) (a0 : Nat) (sp : Int32) (a : Nat) (dp n : Int32) : Prop := mK M a0 = 0 ∧ mK M a = 0 ∧ ¬ sp < 0 ∧ ¬ dp < 0 ∧ ¬ n < 0 ∧ sp.toNatClampNeg + n.toNatClampNeg ≤ mN M a0 ∧ dp.toNatClampNeg + n.toNatClampNeg ≤ mN M a
def cp (M : PM) (a0 : Nat) (sp : Int32) (a : Nat) (dp n : Int32) (k : PM → qO) : qO := if cpOk M a0 sp a dp n then k (sA M a (va_cpy (mI M a0) (mI M a) sp.toNatClampNeg dp.toNatClampNeg n.toNatClampNeg)) else none
theorem cp_inv {M : PM} {a0 : Nat} {sp : Int32} {a : Nat} {dp n : Int32} {k : PM → qO} {r : qRs × PM} (h : cp M a0 sp a dp n k = some r) : ∃ M1, cpOk M a0 sp a dp n ∧ M1 = sA M a (va_cpy (mI M a0) (mI M a) sp.toNatClampNeg dp.toNatClampNeg n.toNatClampNeg) ∧ k M1 = some r := by
  unfold cp at h
  split at h
  · exact ⟨_, by assumption, rfl, h⟩
  · cases h
def qCp (own : String) (ix : Nat) : Prop := Cond.methodLink own ix arraycopyName ∈ qTT ∧ Cond.native arraycopyName ∈ qTT ∧ Cond.static arraycopyName ∈ qTT ∧ Cond.initialized "java/lang/System" ∈ qTT
def qGs (own : String) (ix : Nat) : Prop := (Cond.fieldLink own ix "FlushProofs" "COLUMNS" "[J" ∈ qTT) ∨ ∃ host, Cond.fieldLinkNest own ix "FlushProofs" "COLUMNS" "[J" host ∈ qNN
section EWM
variable {Y : qY} {g : qG} {X : qX} {Z : qZ} {pc : Nat} {L L' : List (Nat × Value)} {st : List Value} {M : PM}
theorem ew_irem {x y v : Int32} (hd : decode Y.2.1 pc = .ok (.irem, 1)) (hy : ¬ y = 0) (hv : v = x - x / y * y) (k : EW Y g X Z (pc + 1) L (.int v :: st) M) : EW Y g X Z pc L (.int y :: .int x :: st) M := by
  subst hv
  exact ew_op k (fun _ _ h => ⟨trivial, h.2.2⟩) (fun ok ad H locs cells slots ls _ K => lv_irem ok.1 ok.2.1 hd hy K)
theorem ew_ldc2 {ix : Nat} (v : Int64) (hd : decode Y.2.1 pc = .ok (.ldc2_w ix, 3)) (hc : Cond.constantLong Y.1.cls ix v ∈ qTT) (k : EW Y g X Z (pc + 3) L (.long v :: st) M) : EW Y g X Z pc L st M :=
  ew_op k (fun _ _ h => ⟨trivial, h⟩) (fun ok ad H locs cells slots ls _ K => lv_ldc2 ok.1 ok.2.1 ok.2.2.2.1 (ok.2.2.2.2.2.2.2.2.2.1.word hc _) hd K)
theorem ew_ldc {ix : Nat} (v : Int32) (hd : decode Y.2.1 pc = .ok (.ldc ix, 2)) (hc : Cond.constant Y.1.cls ix v ∈ qTT) (k : EW Y g X Z (pc + 2) L (.int v :: st) M) : EW Y g X Z pc L st M :=
  ew_op k (fun _ _ h => ⟨trivial, h⟩) (fun ok ad H locs cells slots ls _ K => lv_ldc ok.1 ok.2.1 ok.2.2.2.1 (ok.2.2.2.2.2.2.2.2.2.1.word hc _) hd K)
theorem ew_slen {xs : Nat → Int32} {Ls : Nat} (hxs : g.2.2.2.1.2 = (Ls, xs)) (hd : decode Y.2.1 pc = .ok (.arraylength, 1)) (k : EW Y g X Z (pc + 1) L (.int (nI Ls) :: st) M) : EW Y g X Z pc L (.retAddr 0 :: st) M := by
  refine ⟨k.1, fun ok ad H locs cells slots ls I hs => ?_⟩
  obtain ⟨hx, hb, hml, hown, hr, hlk, hEx, hnm, hst, hF, hg0, hfr0, hlo0, hRc, hRs⟩ := id ok
  have hX := hF.2.2.2.2.2.2.2.2.2.1
  have hA := hF.2.2.2.2.2.2.2.2.2.2
  have e1 : g.2.2.2.1.2.1 = Ls := by rw [hxs]
  rw [e1] at hX
  exact va_slen hx hb hX hX.at hA I.2.2.2.2.1 hd (k.2 ok ad H locs cells slots ls I ⟨trivial, hs.2⟩)
theorem ew_sld {xs : Nat → Int32} {Ls : Nat} {i v : Int32} (hxs : g.2.2.2.1.2 = (Ls, xs)) (hd : decode Y.2.1 pc = .ok (.iaload, 1)) (hi : ¬ i < 0 ∧ i.toNatClampNeg < Ls) (hv : v = xs i.toNatClampNeg) (k : EW Y g X Z (pc + 1) L (.int v :: st) M) : EW Y g X Z pc L (.int i :: .retAddr 0 :: st) M := by
  subst hv
  refine ⟨k.1, fun ok ad H locs cells slots ls I hs => ?_⟩
  obtain ⟨hx, hb, hml, hown, hr, hlk, hEx, hnm, hst, hF, hg0, hfr0, hlo0, hRc, hRs⟩ := id ok
  have hX := hF.2.2.2.2.2.2.2.2.2.1
  have hA := hF.2.2.2.2.2.2.2.2.2.2
  have e1 : g.2.2.2.1.2.1 = Ls := by rw [hxs]
  have e2 : g.2.2.2.1.2.2 = xs := by rw [hxs]
  rw [e1, e2] at hX
  exact va_sld hx hb hX hX.at hA I.2.2.2.2.1 (fun z => z.elim hi.1 (fun z => absurd hi.2 (Nat.not_lt.mpr z))) hd (k.2 ok ad H locs cells slots ls I ⟨trivial, hs.2.2⟩)
theorem ew_gets {ix : Nat} (hd : decode Y.2.1 pc = .ok (.getstatic ix, 3)) (hc : qGs Y.1.cls ix) (k : EW Y g X Z (pc + 3) L (.retAddr 1 :: st) M) : EW Y g X Z pc L st M := by
  refine ⟨k.1, fun ok ad H locs cells slots ls I hs => ?_⟩
  obtain ⟨hx, hb, hml, hown, hr, hlk, hEx, hnm, hst, hF, hg0, hfr0, hlo0, hRc, hRs⟩ := id ok
  have hZ := hF.2.2.2.2.2.2.2.1
  rcases hc with hc | ⟨host, hc⟩
  · exact va_gets hx hb hZ I.2.2.2.2.1 hown (hF.word hc _) (fun _ h => h) hd (k.2 ok ad H locs cells slots ls I ⟨trivial, hs⟩)
  · exact va_getsN hx hb hZ I.2.2.2.2.1 hown (va_Nw.use rfl (hF.2.1 _ hc)) (fun _ h => h) hd (k.2 ok ad H locs cells slots ls I ⟨trivial, hs⟩)
theorem ew_tld {i : Int32} {v : Int64} (hd : decode Y.2.1 pc = .ok (.laload, 1)) (hi : ¬ i < 0 ∧ i.toNatClampNeg < 6) (hv : v = qCol i.toNatClampNeg) (k : EW Y g X Z (pc + 1) L (.long v :: st) M) : EW Y g X Z pc L (.int i :: .retAddr 1 :: st) M := by
  subst hv
  refine ⟨k.1, fun ok ad H locs cells slots ls I hs => ?_⟩
  obtain ⟨hx, hb, hml, hown, hr, hlk, hEx, hnm, hst, hF, hg0, hfr0, hlo0, hRc, hRs⟩ := id ok
  have hT := hF.2.2.2.2.2.2.2.2.1
  exact va_tl hx hb hT I.2.2.2.2.1 (fun z => z.elim hi.1 (fun z => absurd hi.2 (Nat.not_lt.mpr z))) rfl hd (k.2 ok ad H locs cells slots ls I ⟨trivial, hs.2.2⟩)
theorem rW_sA {ad : Nat → Nat} {a : Nat} {f : Nat → Int32} (hk : mK M a = 0) : (rW g ad M).set a (ad a, .inl (g.2.2.1.1, mN M a, .inl f)) = rW g ad (sA M a f) := by
  have e : rE g ad (sA M a f) a = .inl (g.2.2.1.1, mN M a, .inl f) := by
    rw [rE_0 (M := sA M a f) hk]
    show Sum.inl (g.2.2.1.1, mN M a, Sum.inl (va_up (mI M) a f a)) = _
    rw [va_up_self]
  rw [← e]
  exact rW_set rfl (fun i hi => rE_congr rfl rfl (va_up_ne _ _ hi) rfl rfl)
theorem ew_cp {ix a0 a : Nat} {sp dp n : Int32} {M1 : PM} (hd : decode Y.2.1 pc = .ok (.invokestatic ix, 3)) (hc : qCp Y.1.cls ix) (hok : cpOk M a0 sp a dp n) (hM : M1 = sA M a (va_cpy (mI M a0) (mI M a) sp.toNatClampNeg dp.toNatClampNeg n.toNatClampNeg)) (hfr : 1 ≤ zn Z) (hlo : (st.map fun v => v.category).sum + (nativeFrameWords "java/lang/System" "arraycopy" 5 + 11) ≤ zl Z) (k : EW Y g X Z (pc + 3) L st M1) : EW Y g X Z pc L (.int n :: .int dp :: .ref a :: .int sp :: .ref a0 :: st) M := by
  subst hM
  refine ⟨k.1, fun ok ad H locs cells slots ls I hs => ?_⟩
  obtain ⟨hx, hb, hml, hown, hr, hlk, hEx, hnm, hst, hF, hg0, hfr0, hlo0, hRc, hRs⟩ := id ok
  obtain ⟨h1, h2, h3, h4⟩ := hc
  obtain ⟨k0, k1, g1, g2, g3, g4, g5⟩ := hok
  have ha : a < mS M := hs.2.2.1
  have ha0 : a0 < mS M := hs.2.2.2.2.1
  have he0 : (rW g ad M)[a0]? = some (ad a0, .inl (g.2.2.1.1, mN M a0, .inl (mI M a0))) := by rw [rW_get ha0, rE_0 k0]
  have he1 : (rW g ad M)[a]? = some (ad a, .inl (g.2.2.1.1, mN M a, .inl (mI M a))) := by rw [rW_get ha, rE_0 k1]
  refine va_copyi hx hb (hml.trans I.2.2.2.2.2.1.1.symm) hown (hF.word h1 _) (hF.word h2 _) (hF.word h3 _) (hF.word h4 _) hF.2.2.1 I.2.1.1 I.2.1.2 I.2.2.2.2.1 a0 a 0 0 he0 he1 rfl rfl rfl g1 g2 g3 g4 g5 (fun _ _ => rfl) (Nat.le_trans hfr hfr0) (by rw [rS_cat]; omega) hd ?_
  rw [rW_sA k1]
  intro H1 locs1 p1 d1 s1
  exact k.2 ok ad H1 locs1 cells slots ls ⟨I.1, ⟨p1, d1⟩, I.2.2.1, I.2.2.2.1, s1, I.2.2.2.2.2⟩ hs.2.2.2.2.2
end EWM
