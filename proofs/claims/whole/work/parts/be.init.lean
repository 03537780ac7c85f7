/-! THE CLASS IS MADE -/
/-- the face's cells are as they were -/
def KF (M M' : PM) : Prop := ∀ a, 2 ≤ a → a ≤ 9 → Kp M M' a
def St (M0 M : PM) (os : oL) (as : aL') (s c t : Nat) : Prop := Lo M os as ∧ mS M = s ∧ KF M0 M ∧ mC M = c ∧ mT M = t
theorem mO_eq {ci : Nat} {M : PM} {k : Nat → PM → qO} : mO ci M k = k (mS M) (nO M ci) := rfl
theorem cV_ok {M : PM} {k : PM → qO} : cV (some (.inl none, M)) k = k M := rfl
section INIT
variable {M0 M : PM} {os os' : oL} {as as' : aL'} {s c t : Nat}
theorem St_sub (h : St M0 M os as s c t) (h1 : ∀ t ∈ os', t ∈ os) (h2 : ∀ t ∈ as', t ∈ as) : St M0 M os' as' s c t := ⟨Lo_sub h.1 h1 h2, h.2⟩
theorem St_nO (h : St M0 M os as s c t) (hs : 10 ≤ s) {ci : Nat} : St M0 (nO M ci) ((s, ci, qDf ci) :: os) as (s + 1) (c + 1) (t + qNf ci) := by
  obtain ⟨h1, h2, h3, h4, h5⟩ := h
  obtain ⟨⟨c1, c2, c3⟩, k, _⟩ := nO_ok (M := M) (ci := ci)
  have hl := Lo_nO (ci := ci) h1
  rw [h2] at hl
  exact ⟨hl, by rw [c1, h2], fun a h2' h9 => (h3 a h2' h9).trans (k a (by omega)), by rw [c2, h4], by rw [c3, h5]⟩
theorem St_sF {o ci j : Nat} {F : Nat → Value} {v : Value} (h : St M0 M ((o, ci, F) :: os) as s c t) (hne : ∀ t ∈ os, t.1 ≠ o) (ho : o < 2 ∨ 9 < o) : St M0 (sF M o j v) ((o, ci, upF F j v) :: os) as s c t := by
  obtain ⟨h1, h2, h3, h4, h5⟩ := h
  obtain ⟨⟨c1, c2, c3⟩, k, _⟩ := sF_ok (M := M) (o := o) (j := j) (v := v)
  exact ⟨Lo_sF h1 hne, c1.trans h2, fun a h2' h9 => (h3 a h2' h9).trans (k a (by omega)), c2.trans h4, c3.trans h5⟩
theorem St_mk {o ci : Nat} {F : Nat → Value} (ts : aL') (h : St M0 M ((o, ci, F) :: os) as s c t) (hs : 10 ≤ s) (hb : ∀ t ∈ ts, t.2.1 ≤ 67108864) (hne : ∀ t ∈ os, t.1 ≠ o) (ho : o < 2 ∨ 9 < o) : ∃ M', (∀ k, mkA ci o ts k M = k M') ∧ St M0 M' ((o, ci, fA s ts F) :: os) (arr s ts ++ as) (s + ts.length) (c + ts.length) (t + sumL ts) := by
  obtain ⟨h1, h2, h3, h4, h5⟩ := h
  obtain ⟨M', e, ⟨c1, c2, c3⟩, k, hl⟩ := mkA_ok (ci := ci) (l0 := o) ts M os as F hb hne h1
  rw [h2] at hl
  exact ⟨M', e, hl, by rw [c1, h2], fun a h2' h9 => (h3 a h2' h9).trans (k a (by omega) (by omega)), by rw [c2, h4], by rw [c3, h5]⟩
end INIT
def aN (R H : Nat) : aL' := [(0, R, 0), (0, R, 1), (0, R, 2), (0, R, 3), (1, R, 4), (0, R, 6), (0, H, 5)]
def aC : aL' := [(0, 16, 1), (0, 16, 2), (0, 16, 3), (0, 8, 4), (1, 300, 5)]
def aQ : aL' := [(0, 8, 0), (0, 16, 1), (0, 16, 2)]
def aW : aL' := [(2, 5732, 1), (2, 5732, 2), (2, 5732, 3)]
def aS : aL' := [(0, 6, 3), (0, 7, 4), (0, 7, 5), (0, 5732, 6), (0, 5732, 7), (0, 9, 8), (0, 7, 9)]
def aP : aL' := [(1, 5732, 3), (0, 300, 4), (0, 16, 5), (0, 16, 6)]
def aR : aL' := [(0, 6400, 3), (0, 6400, 4), (0, 6400, 5), (0, 6400, 6), (0, 1021, 7), (0, 6400, 8), (0, 16, 11), (0, 16, 12), (1, 16, 13), (0, 16, 14), (1, 16, 15), (0, 8, 16), (0, 300, 17), (0, 16, 18), (0, 16, 19), (0, 16, 20), (1, 6400, 21), (0, 6400, 22), (0, 7, 26), (0, 7, 27), (0, 6, 28), (0, 16, 32)]
/-- the face alone has a name -/
def fCell (j : Nat) : Nat := match j with | 0 => 3 | 1 => 4 | 2 => 5 | 3 => 6 | 4 => 7 | 5 => 9 | _ => 8
def O1 : qOb9 := (fun o => if o = 2 then 4 else 0, fun _ _ => 0, fun _ j => fCell j, fun _ j => if j = 5 then 256 else 300)
theorem O1_C {o ci : Nat} (h : oC O1 o = ci + 1) : o = 2 ∧ ci = 3 := by
  have : (if o = 2 then 4 else 0) = ci + 1 := h
  by_cases z : o = 2
  · rw [if_pos z] at this; exact ⟨z, by omega⟩
  · rw [if_neg z] at this; omega
theorem qNf_3 : qNf 3 = 8 := rfl
theorem qKd_hi {ci j : Nat} (h : ¬ j < qNf ci) : qKd ci j = 5 := by unfold qKd; rw [if_neg h]
theorem O1_ok : okO O1 := by
  intro o ci j o' ci' j' h h' hj hj' e
  obtain ⟨rfl, rfl⟩ := O1_C h
  obtain ⟨rfl, rfl⟩ := O1_C h'
  refine ⟨rfl, ?_⟩
  have lt : ∀ {j}, qKd 3 j < 3 → j < 7 := fun {j} hj => by
    by_cases z : j < qNf 3
    · rw [qNf_3] at z
      by_cases y : j = 7
      · subst y; exact absurd hj (by decide)
      · omega
    · rw [qKd_hi z] at hj; omega
  have l1 := lt hj
  have l2 := lt hj'
  have e' : fCell j = fCell j' := e
  revert e'
  have key : ∀ a, a < 7 → ∀ b, b < 7 → fCell a = fCell b → a = b := by decide
  exact key j l1 j' l2
theorem O1_Nd : NdO O1 2 300 256 := ⟨rfl, fun j hj => by show (if j = 5 then 256 else 300) = 300; rw [if_neg (by omega)], rfl, by decide, Or.inl rfl⟩
/-- the core, with the face's store set back -/
theorem init_core {n : Nat} (hn : 7000 ≤ n) {M : PM} (hS : mS M = 1) (hL : Lo M [(0, 1, qDf 1)] []) :
    ∃ M5 M' S1, (∀ k, cV (F_XCore_init n 1 (nO M 2)) k = k M') ∧ Rp O1 M5 S1 ∧ CS O1 2 300 256 S1 0 3 ∧ (∀ m, m < 3 → rwI (S1.1 2) (nI m) (-1) (-1) (-1) m) ∧ St M5 M' [(1, 2, fA 10 aC (upF (qDf 2) 0 (.ref 2))), (0, 1, qDf 1)] (arr 10 aC) 15 (mC M + 14) (mT M + (qNf 2 + qNf 3 + sumL (aN 300 256) + sumL aC)) := by
  have h1 := Lo_nO (ci := 2) hL
  rw [hS] at h1
  obtain ⟨⟨c1, c2, c3⟩, _⟩ := nO_ok (M := M) (ci := 2)
  have s1 : mS (nO M 2) = 2 := by rw [c1, hS]
  have h2 := Lo_nO (ci := 3) h1
  rw [s1] at h2
  obtain ⟨⟨d1, d2, d3⟩, _⟩ := nO_ok (M := nO M 2) (ci := 3)
  have s2 : mS (nO (nO M 2) 3) = 3 := by rw [d1, s1]
  obtain ⟨M3, e3, ⟨g1, g2, g3⟩, k3, h3⟩ := mkA_ok (ci := 3) (l0 := 2) (aN 300 256) _ _ _ _ (by decide) (by decide) h2
  rw [s2] at g1 h3
  have h3' : Lo M3 ((1, 2, qDf 2) :: [(2, 3, fA 3 (aN 300 256) (qDf 3)), (0, 1, qDf 1)]) (arr 3 (aN 300 256) ++ []) := Lo_sub h3 (by simp) (fun _ h => h)
  have h4 := Lo_sF (j := 0) (v := .ref 2) h3' (by simp)
  obtain ⟨⟨p1', p2', p3'⟩, _⟩ := sF_ok (M := M3) (o := 1) (j := 0) (v := .ref 2)
  have hf := h4.1 (2, 3, fA 3 (aN 300 256) (qDf 3)) (by simp)
  have ha := fun a kd len (hm : (a, kd, len) ∈ arr 3 (aN 300 256) ++ []) => (h4.2 (a, kd, len) hm).2
  -- what the store holds
  have R4 : Rp O1 (sF M3 1 0 (.ref 2)) (fun _ _ _ => 0, fun _ _ _ => 0) := by
    intro o ci hc
    obtain ⟨rfl, rfl⟩ := O1_C hc
    refine ⟨hf.2.1, fun j => ?_⟩
    rw [show mF (sF M3 1 0 (.ref 2)) 2 = fA 3 (aN 300 256) (qDf 3) from hf.2.2]
    by_cases z : j < qNf 3
    · rw [qNf_3] at z
      have arr' : ∀ kd len, (fCell j, kd, len) ∈ arr 3 (aN 300 256) ++ [] → qKd 3 j = kd → oN O1 2 j = len → mK (sF M3 1 0 (.ref 2)) (oA O1 2 j) = qKd 3 j ∧ mN (sF M3 1 0 (.ref 2)) (oA O1 2 j) = oN O1 2 j ∧ (∀ i, mI (sF M3 1 0 (.ref 2)) (oA O1 2 j) i = 0) ∧ ∀ i, mL (sF M3 1 0 (.ref 2)) (oA O1 2 j) i = 0 := fun kd len hm e1 e2 => by
        obtain ⟨b1, b2, b3, b4⟩ := ha _ _ _ hm
        exact ⟨b1.trans e1.symm, b2.trans e2.symm, b3, b4⟩
      rcases (show j = 0 ∨ j = 1 ∨ j = 2 ∨ j = 3 ∨ j = 4 ∨ j = 5 ∨ j = 6 ∨ j = 7 by omega) with y | y | y | y | y | y | y | y <;> subst y
      · exact ⟨fun q => absurd q (by decide), fun q => absurd q (by decide), fun _ => ⟨rfl, arr' 0 300 (by decide) rfl rfl⟩⟩
      · exact ⟨fun q => absurd q (by decide), fun q => absurd q (by decide), fun _ => ⟨rfl, arr' 0 300 (by decide) rfl rfl⟩⟩
      · exact ⟨fun q => absurd q (by decide), fun q => absurd q (by decide), fun _ => ⟨rfl, arr' 0 300 (by decide) rfl rfl⟩⟩
      · exact ⟨fun q => absurd q (by decide), fun q => absurd q (by decide), fun _ => ⟨rfl, arr' 0 300 (by decide) rfl rfl⟩⟩
      · exact ⟨fun q => absurd q (by decide), fun q => absurd q (by decide), fun _ => ⟨rfl, arr' 1 300 (by decide) rfl rfl⟩⟩
      · exact ⟨fun q => absurd q (by decide), fun q => absurd q (by decide), fun _ => ⟨rfl, arr' 0 256 (by decide) rfl rfl⟩⟩
      · exact ⟨fun q => absurd q (by decide), fun q => absurd q (by decide), fun _ => ⟨rfl, arr' 0 300 (by decide) rfl rfl⟩⟩
      · exact ⟨fun _ => rfl, fun q => absurd q (by decide), fun q => absurd q (by decide)⟩
    · rw [qKd_hi z]
      exact ⟨fun q => absurd q (by decide), fun q => absurd q (by decide), fun q => absurd q (by decide)⟩
  obtain ⟨S1, er, cs, ro, rw3⟩ := cls_reset (O := O1) (a := 2) (R := 300) (H := 256) (E := 0) (n := n) (S := (fun _ _ _ => 0, fun _ _ _ => 0)) hn O1_Nd (by decide)
  obtain ⟨M5, e5, R5, F5⟩ := S_XNodes_reset O1_ok (n := n) (l0 := 2) R4 Fm.refl () S1 er
  have F5' : Fm O1 (sF M3 1 0 (.ref 2)) M5 := F5
  have e5' : F_XNodes_reset n 2 (sF M3 1 0 (.ref 2)) = some (.inl none, M5) := e5
  have s5 : mS M5 = 10 := by rw [F5'.1, p1', g1]; rfl
  have h5 : Lo M5 ((1, 2, upF (qDf 2) 0 (.ref 2)) :: [(0, 1, qDf 1)]) [] := by
    refine ⟨fun t ht => ?_, fun t ht => absurd ht List.not_mem_nil⟩
    have : t ∈ (1, 2, upF (qDf 2) 0 (.ref 2)) :: [(2, 3, fA 3 (aN 300 256) (qDf 3)), (0, 1, qDf 1)] ∧ t.1 ≠ 2 := by
      rcases List.mem_cons.mp ht with rfl | ht
      · exact ⟨List.mem_cons_self, by decide⟩
      · rcases List.mem_cons.mp ht with rfl | ht
        · exact ⟨by simp, by decide⟩
        · exact absurd ht List.not_mem_nil
    obtain ⟨b1, b2, b3⟩ := h4.1 t this.1
    refine ⟨by rw [F5'.1]; exact b1, by rw [F5'.2.1]; exact b2, ?_⟩
    rw [F5'.2.2.2.2.2.2 t.1 (if_neg this.2)]; exact b3
  have st5 : St M5 M5 ((1, 2, upF (qDf 2) 0 (.ref 2)) :: [(0, 1, qDf 1)]) [] 10 (mC M + 9) (mT M + (qNf 2 + qNf 3 + sumL (aN 300 256))) := by
    refine ⟨h5, s5, fun _ _ _ => Kp.refl, ?_, ?_⟩
    · rw [F5'.2.2.2.1, p2', g2, d2, c2]; rfl
    · rw [F5'.2.2.2.2.1, p3', g3, d3, c3]; omega
  obtain ⟨M6, e6, st6⟩ := St_mk aC st5 (by decide) (by decide) (by decide) (Or.inl (by decide))
  refine ⟨M5, M6, S1, fun k => ?_, R5, cs, rw3, ?_⟩
  · have e : F_XCore_init n 1 (nO M 2) = some (.inl none, M6) := by
      unfold F_XCore_init
      rw [mO_eq, s1]
      have e3' : F_XNodes_init n 2 (300 : Int32) (256 : Int32) (nO (nO M 2) 3) = some (.inl none, M3) := e3 (fun M => some (.inl none, M))
      rw [e3', cV_ok, pF_at h3' List.mem_cons_self, gR_at (a := 2) h4 List.mem_cons_self rfl]
      unfold kO
      rw [if_pos hf.2.1, e5']
      exact e6 (fun M => some (.inl none, M))
    rw [e]; rfl
  · refine ⟨Lo_sub st6.1 (fun _ h => h) (fun t ht => by rw [List.append_nil]; exact ht), st6.2.1, st6.2.2.1, ?_, ?_⟩
    · rw [st6.2.2.2.1]; rfl
    · rw [st6.2.2.2.2]; omega
