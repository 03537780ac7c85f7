/-! THE CLASS DECIDES -/
theorem FailsV_congr {I : Nat} {iv iv' : Nat → Nat} {sn : Nat → Bool} {c1 c1' c2 c2' v : Nat → Nat} {e : Nat} (h1 : ∀ k, k < I → iv k = iv' k) (h2 : ∀ e, sn e = true → c1 e = c1' e ∧ c2 e = c2' e) : FailsV I iv sn c1 c2 v e ↔ FailsV I iv' sn c1' c2' v e := by
  unfold FailsV
  constructor
  · rintro ⟨a, b, d⟩
    refine ⟨fun k hk => by rw [← h1 k hk]; exact a k hk, b, ?_⟩
    rw [← (h2 e b).1, ← (h2 e b).2]; exact d
  · rintro ⟨a, b, d⟩
    refine ⟨fun k hk => by rw [h1 k hk]; exact a k hk, b, ?_⟩
    rw [(h2 e b).1, (h2 e b).2]; exact d
theorem QF_congr {I : Nat} {iv iv' : Nat → Nat} {sn : Nat → Bool} {c1 c1' c2 c2' : Nat → Nat} (h1 : ∀ k, k < I → iv k = iv' k) (h2 : ∀ e, sn e = true → c1 e = c1' e ∧ c2 e = c2' e) : QF I iv sn c1 c2 = QF I iv' sn c1' c2' := by
  funext s
  apply propext
  unfold QF
  constructor
  · rintro ⟨e, F, hf⟩; exact ⟨e, F, (FailsV_congr h1 h2).mp hf⟩
  · rintro ⟨e, F, hf⟩; exact ⟨e, F, (FailsV_congr h1 h2).mpr hf⟩
/-- claims in the question -/
def QCl (S : qS) (q w M K : Nat) (cl : Nat → Nat) : Prop := S.1 q 4 0 = nI K ∧ K ≤ 16 ∧ ∀ i, i < K → ∃ v, v < M ∧ S.1 q 1 i = nI v ∧ cCd S w v = cl i ∧ cWd S w v = false
/-- what the class's answer is: D the deep codes -/
def OutK (D : Nat → Prop) (E I K : Nat) (iv cl : Nat → Nat) (eS : Nat → Bool) (dif : Nat → Int32) (fx y : Int32) (dw dt : Nat) (wit : Nat → Int32) (fet df : Int32) : Prop :=
  (7 < dw ∨ 6 < dt) ∧ y = 2 ∨
  (dw ≤ 7 ∧ dt ≤ 6) ∧ ∃ P, (∀ i, P i = true → PD D i = true) ∧ Qin P (QF I iv (snq K) cl (fun _ => cF)) ∧
    ((y = 1 ∧ ¬ ∃ s', X P (QF I iv (snq K) cl (fun _ => cF)) s') ∨
     (y = 0 ∧ ∃ s' e, Lst P (QF I iv (snq K) cl (fun _ => cF)) s' ∧ e < K ∧ (∃ F, FailsV I iv (snq K) cl (fun _ => cF) (ivl (zs s') F) e) ∧ (∀ e', e' < e → ¬ ∃ F, FailsV I iv (snq K) cl (fun _ => cF) (ivl (zs s') F) e') ∧ (∀ a, a < E → wit a = nI (if eS a = true then s' (17 + a) else s' a)) ∧ (fet = if P 16 = true then nI (s' 16) else fx) ∧ df = dif e))
section DECIDE
variable {O : qOb9} {x c u p f w q s l n E M I K : Nat} {S : qS} {eS : Nat → Bool} {iv cl : Nat → Nat}
theorem cls_markNeeded (hO : ClO O x c u p f w q s l) (hn : 7000 ≤ n) (hE : E ≤ 16) (hC : CS O w 5732 2048 S E M) (h01 : ∀ m, S.1 p 3 m = 0 ∨ S.1 p 3 m = 1) (hQ : QI S q w I M iv) (hI8 : I ≤ 8) (hK : QCl S q w M K cl) :
    ∃ S' D0, G_XProver_markNeeded O n p S = some ((), S') ∧ rOnly p S S' ∧ (∀ i, i ≠ 3 → S'.1 p i = S.1 p i) ∧ (∀ m, D0 m = 0 ∨ D0 m = 1) ∧ (∀ m, m < M → (¬ D0 m = 0 ↔ (∃ k, k < I ∧ S.1 q 0 k = nI m) ∨ ∃ i, i < K ∧ S.1 q 1 i = nI m)) ∧ S'.1 p 3 = mpAll (S.1 w 0) (S.1 w 1) (S.1 w 2) (S.1 w 3) M D0 := by
  have hO' := hO
  have NE := fun _ : Unit => ClO_ne hO'
  have hA := mkP hO'
  obtain ⟨S1, a1, a2, a3, a4⟩ := cls_markInv (n := n) hO' hn hC h01 hQ hI8
  obtain ⟨⟨h1, h2, h3, h4, h5, h6, h7⟩, ⟨o1, o2, o3, o4, o5, o6, o7, o8, o9, o10, o11⟩, ⟨n1, n2, n3⟩, _, _, ⟨ql0, ql1, ql2⟩, _⟩ := hO
  have hM := hC.2.2.1
  have hM31 := (CS_big hC).1
  obtain ⟨hK4, hK16, hcl⟩ := hK
  have loop : ∀ (d k fu : Nat) (T : qS), k + d = K → d < fu → rOnly p S T → (∀ i, i ≠ 3 → T.1 p i = S.1 p i) → MKc T p 3 M (fun m => (∃ k, k < I ∧ S.1 q 0 k = nI m) ∨ ∃ a, a < k ∧ S.1 q 1 a = nI m) → ∃ T' D0, G_XProver_markNeeded_6 O n fu p (nI k) T = some ((), T') ∧ rOnly p S T' ∧ (∀ i, i ≠ 3 → T'.1 p i = S.1 p i) ∧ (∀ m, D0 m = 0 ∨ D0 m = 1) ∧ (∀ m, m < M → (¬ D0 m = 0 ↔ (∃ k, k < I ∧ S.1 q 0 k = nI m) ∨ ∃ i, i < K ∧ S.1 q 1 i = nI m)) ∧ T'.1 p 3 = mpAll (S.1 w 0) (S.1 w 1) (S.1 w 2) (S.1 w 3) M D0 := by
    intro d
    induction d with
    | zero =>
      intro k fu T ee hf hT hp hm
      obtain ⟨fu, rfl⟩ : ∃ q, fu = q + 1 := ⟨fu - 1, by omega⟩
      have e0 : k = K := by omega
      subst e0
      have tw : T.1 w = S.1 w := hT.2 w (fun z => (NE ()).2.1.1 z.symm)
      have cT' : CS O w 5732 2048 T E M := CS_other hC tw
      have e1 := cls_spread (O := O) (n := n) hn hE hA cT' hM
      rw [tw] at e1
      rw [G_XProver_markNeeded_6, uO (ci := 6) h4 (by decide), o6, uI (ci := 7) h5 (by decide), hT.2 q (fun z => (NE ()).2.1.2.2.1 z.symm), hK4, if_pos (nI_le (by omega) (by omega)), uO (ci := 6) h4 (by decide), o5, uA (ci := 6) h4 (by decide), uk (ci := 3) n2.1, e1, yV_some]
      exact ⟨_, T.1 p 3, rfl, hT.trans setF_only, fun i hi => by rw [setF_ne hi]; exact hp i hi, hm.1, hm.2, setF_same⟩
    | succ d ih =>
      intro k fu T ee hf hT hp hm
      obtain ⟨fu, rfl⟩ : ∃ q, fu = q + 1 := ⟨fu - 1, by omega⟩
      obtain ⟨v, hv, ev, _, _⟩ := hcl k (by omega)
      have tq : T.1 q = S.1 q := hT.2 q (fun z => (NE ()).2.1.2.2.1 z.symm)
      have cT' : CS O w 5732 2048 T E M := CS_other hC (hT.2 w (fun z => (NE ()).2.1.1 z.symm))
      have k0 : k < oN O q 1 := by rw [ql1]; omega
      obtain ⟨T1, t1, t2, t3, t4⟩ := cls_mark_MK (O := O) (n := n) hA cT' hM hv hm
      rw [G_XProver_markNeeded_6, uO (ci := 6) h4 (by decide), o6, uI (ci := 7) h5 (by decide), tq, hK4, if_neg (nI_ge (by omega) (by omega)), uO (ci := 6) h4 (by decide), o5, uA (ci := 6) h4 (by decide), uO (ci := 6) h4 (by decide), o6, uA (ci := 7) h5 (by decide), ul (ci := 7) h5 (by decide) k0 (by omega), tq, ev, uk (ci := 3) n2.1, t1, yV_some, hB_eq, nI_1]
      refine ih (k + 1) fu T1 (by omega) (by omega) (hT.trans t2) (fun i hi => by rw [t3 i hi, hp i hi]) (MKc_iff t4 (fun m hm' => ⟨?_, ?_⟩))
      · rintro ((z | ⟨a, ha, ea⟩) | rfl)
        · exact Or.inl z
        · exact Or.inr ⟨a, by omega, ea⟩
        · exact Or.inr ⟨k, by omega, ev⟩
      · rintro (z | ⟨a, ha, ea⟩)
        · exact Or.inl (Or.inl z)
        · by_cases z : a = k
          · subst z
            right; exact (nI_eq (by omega) (by omega)).mp (ea.symm.trans ev)
          · exact Or.inl (Or.inr ⟨a, by omega, ea⟩)
  obtain ⟨S', D0, y1, y2⟩ := loop K 0 n S1 (by omega) (by omega) a2 a3 (MKc_iff a4 (fun m hm => ⟨fun z => Or.inl z, fun z => z.elim id (fun ⟨a, ha, _⟩ => absurd ha (Nat.not_lt_zero a))⟩))
  rw [nI_0] at y1
  refine ⟨S', D0, ?_, y2⟩
  unfold G_XProver_markNeeded
  rw [uk (ci := 6) h4, a1, yV_some]
  exact y1
theorem cls_large {dw dt : Nat} (h3 : oC O u = 5) (b1 : dw ≤ 6000) (b2 : dt ≤ 6000) (e5 : S.1 u 5 0 = nI dw) (e6 : S.1 u 6 0 = nI dt) : G_XOutcome_isTooLarge O n u S = some (if dw ≤ 7 ∧ dt ≤ 6 then 0 else 1, S) := by
  unfold G_XOutcome_isTooLarge G_XOutcome_isTooLarge_18 G_XOutcome_isTooLarge_23
  rw [uI (ci := 4) h3 (by decide), e5]
  by_cases h7 : dw ≤ 7
  · rw [if_neg (show ¬ (7 : Int32) < nI dw from fun z => by have := (nI_ltI (a := 7) (b := dw) (by decide) (by omega)).mp z; omega), uI (ci := 4) h3 (by decide), e6]
    by_cases h6 : dt ≤ 6
    · rw [if_pos (show nI dt ≤ (6 : Int32) from nI_le (b := 6) h6 (by decide)), if_pos ⟨h7, h6⟩]; rfl
    · rw [if_neg (show ¬ nI dt ≤ (6 : Int32) from nI_ge (a := 6) (b := dt) (by omega) (by omega)), if_neg (fun z => h6 z.2)]; rfl
  · rw [if_pos (show (7 : Int32) < nI dw from (nI_ltI (a := 7) (b := dw) (by decide) (by omega)).mpr (by omega)), if_neg (fun z => h7 z.1)]; rfl
theorem cls_decide (hO : ClO O x c u p f w q s l) (hn : 7000 ≤ n) (hE : E ≤ 16) {D : Nat → Prop} {fx : Int32} {dw dt : Nat} (hA : AskO O u p w q E I M S eS iv D fx dw dt) (hI8 : I ≤ 8) (hK : QCl S q w M K cl) (hDc : Clo D) (hDi : ∀ k, k < I → D (iv k)) (hDcl : ∀ i, i < K → nL D (cl i)) :
    ∃ S' y, G_XProver_decide O n p u S = some ((), S') ∧ onl (fun o => o = p ∨ o = s ∨ o = l ∨ o = u) S S' ∧ S'.1 u 1 0 = y ∧ (∀ m, S'.1 p 3 m = 0 ∨ S'.1 p 3 m = 1) ∧ (∀ j, j ≠ 0 → j ≠ 1 → j ≠ 3 → j ≠ 4 → S'.1 u j = S.1 u j) ∧ (∀ i, i ≠ 3 → S'.1 p i = S.1 p i) ∧ OutK D E I K iv cl eS (S.1 q 2) fx y dw dt (S'.1 u 0) (S'.1 u 3 0) (S'.1 u 4 0) := by
  have hO' := hO
  have NE := fun _ : Unit => ClO_ne hO'
  obtain ⟨hC, hEl, hhi, hQ, h01, u5, u6, b5, b6, nW, nT, u2, u3, u0⟩ := hA
  have hM := hC.2.2.1
  have hM31 := (CS_big hC).1
  obtain ⟨⟨h1, h2, h3, h4, h5, h6, h7⟩, ⟨o1, o2, o3, o4, o5, o6, o7, o8, o9, o10, o11⟩, ⟨n1, n2, n3⟩, _, _, ⟨ql0, ql1, ql2⟩, _⟩ := hO
  unfold G_XProver_decide G_XProver_decide_57 G_XProver_decide_68
  rw [uk (ci := 4) h3, cls_large h3 b5 b6 u5 u6, yC_some]
  by_cases hs : dw ≤ 7 ∧ dt ≤ 6
  · rw [if_pos hs, if_pos rfl, uO (ci := 6) h4 (by decide), o6, uI (ci := 7) h5 (by decide), hK.1]
    by_cases k0 : K = 0
    · subst k0
      rw [if_pos nI_0, uP (ci := 4) h3 (by decide)]
      refine ⟨_, 1, rfl, onl.up (Or.inr (Or.inr (Or.inr rfl))), up3_v, fun m => ?_, fun j _ j1 _ _ => up3_f j1, fun i _ => ?_, Or.inr ⟨hs, fun _ => false, fun i hi => (by cases hi), ?_, Or.inl ⟨rfl, ?_⟩⟩⟩
      · rw [(rOnly.up).2 p (NE ()).2.1.2.2.2.2.2]; exact h01 m
      · rw [(rOnly.up).2 p (NE ()).2.1.2.2.2.2.2]
      · rintro s1 s2 _ _ ⟨e, F, hf⟩
        exact absurd (snq_iff.mp hf.2.1) (Nat.not_lt_zero e)
      · rintro ⟨s1, _, _, _, e, F, hf⟩
        exact absurd (snq_iff.mp hf.2.1) (Nat.not_lt_zero e)
    · obtain ⟨S1, D0, a1, a2, a3, a4, a5, a6⟩ := cls_markNeeded (n := n) hO' hn hE hC h01 hQ hI8 hK
      have w1 : S1.1 w = S.1 w := a2.2 w (fun z => (NE ()).2.1.1 z.symm)
      have q1' : S1.1 q = S.1 q := a2.2 q (fun z => (NE ()).2.1.2.2.1 z.symm)
      have u1' : S1.1 u = S.1 u := a2.2 u (fun z => (NE ()).2.1.2.2.2.2.2 z.symm)
      have hC1 : CS O w 5732 2048 S1 E M := CS_other hC w1
      -- needed codes
      have mD := marks_Dp hC.2.2.2.1 hM31 hE a4 a5
      have mN := marks_num hC.2.2.2.1 hM31 hE a4 a5
      rw [← a6] at mD mN
      have nR : ∀ c, (∃ m, m < M ∧ ((∃ k, k < I ∧ S.1 q 0 k = nI m) ∨ ∃ i, i < K ∧ S.1 q 1 i = nI m) ∧ cCd S w m = c) → nL D c := by
        rintro c ⟨m, hm, ⟨k, hk, ek⟩ | ⟨i, hi, ei⟩, rfl⟩
        · obtain ⟨v, hv, ev, cv, _⟩ := hQ.2 k hk
          have := (nI_eq (by omega) (by omega)).mp (ek.symm.trans ev)
          subst this
          rw [cv]
          exact nL_Clo hDc (hDi k hk) (fun _ h _ _ => h)
        · obtain ⟨v, hv, ev, cv, _⟩ := hK.2.2 i hi
          have := (nI_eq (by omega) (by omega)).mp (ei.symm.trans ev)
          subst this
          rw [cv]
          exact hDcl i hi
      have inD : ∀ c, Dp (fun c => ∃ m, m < M ∧ ((∃ k, k < I ∧ S.1 q 0 k = nI m) ∨ ∃ i, i < K ∧ S.1 q 1 i = nI m) ∧ cCd S w m = c) c → 2 ≤ p1 c → p1 c ≤ 5 → D c := fun c hc h2' h5' => nL_leaf (nL_Dp nR hc) h2' h5'
      have cW7 : cnt (gW (S.1 w 0) (S1.1 p 3)) M ≤ 7 := Nat.le_trans (NumOf_le mN.1 nW (fun c hc => ⟨inD c hc.1 (by rcases hc.2 with z | z <;> omega) (by rcases hc.2 with z | z <;> omega), hc.2⟩)) hs.1
      have cT6 : cnt (gT (S.1 w 0) (S1.1 p 3)) M ≤ 6 := Nat.le_trans (NumOf_le mN.2 nT (fun c hc => ⟨inD c hc.1 (by rcases hc.2 with z | z <;> omega) (by rcases hc.2 with z | z <;> omega), hc.2⟩)) hs.2
      have m01 : ∀ m, S1.1 p 3 m = 0 ∨ S1.1 p 3 m = 1 := fun m => by rw [a6]; exact mpAll_01 M D0 a4 m
      have lo : ∀ m, m < 3 + E → S1.1 w 0 m ≤ 4 := fun m hm => by
        rw [w1]
        by_cases z : m < 3
        · rw [lowK hC z (by omega)]; exact nI_le (b := 4) (by omega) (by decide)
        · obtain ⟨k1, _⟩ := hEl (m - 3) (by omega)
          rw [show 3 + (m - 3) = m by omega] at k1
          rw [k1]
          unfold kEl
          cases eS (m - 3) <;> decide
      have hX : PX O x c u p f w q s l E M S1 := by
        refine ⟨hO', hE, hC1, ⟨hhi.1, lo, fun m h1' h2' => by rw [w1]; exact hhi.2 m h1' h2'⟩, m01, fun a b ha hb da hp => ?_, by rw [w1]; exact cW7, by rw [w1]; exact cT6⟩
        rw [w1] at hp
        rw [a6] at da ⊢
        exact mpAll_closed hC.2.2.2.1.2.1 hM31 M D0 (Nat.le_refl M) a4 a b ha hp (by omega) da
      have mkd' : ∀ m, m < M → ((∃ k, k < I ∧ S.1 q 0 k = nI m) ∨ ∃ i, i < K ∧ S.1 q 1 i = nI m) → ¬ S1.1 p 3 m = 0 := fun m hm hc => by
        rw [a6]
        exact mpAll_mono M D0 m (by omega) ((a5 m hm).mpr hc)
      have hQX : QX S1 p w q M I K := by
        unfold QX cWd
        rw [q1', w1]
        refine ⟨⟨hQ.1, hI8, fun k hk => ?_⟩, hK.1, hK.2.1, by omega, fun i hi => ?_⟩
        · obtain ⟨v, hv, ev, _, wv⟩ := hQ.2 k hk
          exact ⟨v, hv, ev, mkd' v hv (Or.inl ⟨k, hk, ev⟩), wv⟩
        · obtain ⟨v, hv, ev, _, wv⟩ := hK.2.2 i hi
          exact ⟨v, hv, ev, mkd' v hv (Or.inr ⟨i, hi, ev⟩), wv⟩
      obtain ⟨S3, S4, lam, nw, na, nt, B, f1, f2, f3, f4, f5, f6, f7⟩ := cls_findLeast (n := n) hX hn hQX
      have w3 : S3.1 w = S.1 w := by rw [f2.2 w (NE ()).2.2.1.2.1, w1]
      have q3 : S3.1 q = S.1 q := by rw [f2.2 q (NE ()).2.2.2.2.1.1, q1']
      have p3 : S3.1 p = S1.1 p := f2.2 p (NE ()).2.1.2.2.2.1
      have u3' : S3.1 u = S.1 u := by rw [f2.2 u (fun z => (NE ()).2.2.2.2.2.2.1 z.symm), u1']
      have p4 : S4.1 p = S1.1 p := by rw [f5.1 p (NE ()).2.1.2.2.2.1, p3]
      have u4' : S4.1 u = S.1 u := by rw [f5.1 u (fun z => (NE ()).2.2.2.2.2.2.1 z.symm), u3']
      have hC3 : CS O w 5732 2048 S3 E M := CS_other hC w3
      have hEl3 : ElW w S3 E eS := by unfold ElW at hEl ⊢; rw [w3]; exact hEl
      have hhi3 : 3 + E ≤ M ∧ ∀ m, 3 + E ≤ m → m < M → ¬ S3.1 w 0 m ≤ 4 := by rw [w3]; exact hhi
      have on4 : onl (fun o => o = p ∨ o = s ∨ o = l ∨ o = u) S S4 := fun o ho => by
        have np : ¬ o = p := fun z => ho (Or.inl z)
        have ns : ¬ o = s := fun z => ho (Or.inr (Or.inl z))
        have nl : ¬ o = l := fun z => ho (Or.inr (Or.inr (Or.inl z)))
        refine ⟨by rw [f5.1 o ns, f2.2 o ns, a2.2 o np], ?_⟩
        rw [f5.2.2 o nl, show S3.2 = S1.2 from f2.1, show S1.2 = S.2 from a2.1]
      have eQ : QF I (ivq S3 q w) (snq K) (clq S3 q w) (fun _ => cF) = QF I iv (snq K) cl (fun _ => cF) ∧ ∀ v e, FailsV I (ivq S3 q w) (snq K) (clq S3 q w) (fun _ => cF) v e ↔ FailsV I iv (snq K) cl (fun _ => cF) v e := by
        have k1 : ∀ k, k < I → ivq S3 q w k = iv k := fun k hk => by
          obtain ⟨v, hv, ev, cv, _⟩ := hQ.2 k hk
          unfold ivq cCd
          rw [q3, w3, ev, show tN (nI v) = v from nI_clamp (by omega)]
          exact cv
        have k2 : ∀ e, snq K e = true → clq S3 q w e = cl e ∧ (fun _ => cF) e = (fun _ => cF) e := fun e he => by
          obtain ⟨v, hv, ev, cv, _⟩ := hK.2.2 e (snq_iff.mp he)
          refine ⟨?_, rfl⟩
          unfold clq cCd
          rw [q3, w3, ev, show tN (nI v) = v from nI_clamp (by omega)]
          exact cv
        exact ⟨QF_congr k1 k2, fun v e => FailsV_congr k1 k2⟩
      obtain ⟨g1, g2⟩ := cls_sem f3 (vElO hE hC3 hEl3 hhi3) f7
      rw [eQ.1] at g1 g2
      have hP : ∀ i, PD (DC 0 M (vS S3 p w q s M nw na nt I K)) i = true → PD D i = true := fun i hi => by
        obtain ⟨hi33, m, hm, dm, em⟩ := PD_iff.mp hi
        refine PD_iff.mpr ⟨hi33, ?_⟩
        have kz : 2 ≤ p1 (zc i) ∧ p1 (zc i) ≤ 4 := by
          obtain ⟨z1, z2⟩ := zc_k hi33
          by_cases y : i < 17
          · rcases z1 y with z | z <;> omega
          · have := z2 (by omega); omega
        have em' : cCd S w m = zc i := by
          rw [← em]
          show cd _ _ _ _ m = cd _ _ _ _ m
          rw [v3, v4, v5, v6, w3]
        refine inD _ ((mD (zc i)).mpr ⟨m, hm, ?_, em'⟩) kz.1 (by omega)
        rcases vMk.mp dm with z | z
        · subst z
          rw [show cCd S w 0 = cF from (cd_0 hC.2.2.2.1 hM31 hE).1] at em'
          rw [← em', p1_pr] at kz
          omega
        · rw [p3] at z; exact z
      have hk0 : ¬ nI K = (0 : Int32) := nz0 (by have := hK.2.1; omega) k0
      rw [if_neg hk0, uk (ci := 6) h4, a1, yV_some, uO (ci := 6) h4 (by decide), o7, uA (ci := 6) h4 (by decide), uk (ci := 8) h6, f1, yC_some]
      rcases g2 with ⟨eB, no⟩ | ⟨t0, w0, e0, eB, ht0, he0, ls, fF, fl⟩
      · subst eB
        have e13 : S4.1 s 13 0 = nI 64 := by
          rcases f6 with ⟨_, z, _⟩ | ⟨_, _, _, z, _⟩
          · exact z
          · cases z
        have us : ∀ {A : qS} {y : Int32}, (up3 A.1 u 1 0 y) s = A.1 s := fun {A y} => by
          funext j i
          exact up3_ne (fun z => (NE ()).2.2.2.2.2.2.1 z.1)
        rw [if_pos (show bN (Option.isSome (none : Bt)) = 0 from rfl), uP (ci := 4) h3 (by decide), uO (ci := 6) h4 (by decide), o7, uk (ci := 8) h6]
        unfold G_XSearch_tell
        rw [uI (ci := 8) h6 (by decide)]
        rw [show (up3 S4.1 u 1 0 1, S4.2).1 s 13 0 = 64 by show (up3 S4.1 u 1 0 1) s 13 0 = 64; rw [us, e13]; rfl, if_pos rfl, yV_some]
        have up := rOnly.up (S := S4) (r := u) (j := 1) (i := 0) (v := (1 : Int32))
        refine ⟨_, 1, rfl, on4.trans (onl.of up (Or.inr (Or.inr (Or.inr rfl)))), up3_v, fun m => ?_, fun j _ j1 _ _ => ?_, fun i hi => ?_, Or.inr ⟨hs, _, hP, g1, Or.inl ⟨rfl, no⟩⟩⟩
        · rw [up.2 p (NE ()).2.1.2.2.2.2.2, p4]; exact m01 m
        · rw [up3_f j1, u4']
        · rw [up.2 p (NE ()).2.1.2.2.2.2.2, p4]; exact a3 i hi
      · subst eB
        obtain ⟨b1, b2, b3, b4⟩ : t0 < 64 ∧ S4.1 s 13 0 = nI t0 ∧ S4.1 s 14 0 = nI e0 ∧ ∀ i, i < nw → S4.1 s 9 i = nI (w0 i) := by
          rcases f6 with ⟨z, _⟩ | ⟨t1, w1, e1, z, y1, _, y3, y4, y5⟩
          · cases z
          · have := Option.some.inj z
            have q1 : t0 = t1 := congrArg Prod.fst this
            have q2 : w0 = w1 := congrArg (fun z => z.2.1) this
            have q3 : e0 = e1 := congrArg (fun z => z.2.2) this
            subst q1 q2 q3
            exact ⟨y1, y3, y4, y5⟩
        rw [if_neg (show ¬ bN (Option.isSome (some (t0, w0, e0) : Bt)) = 0 from (show ¬ (1 : Int32) = 0 by decide)), uP (ci := 4) h3 (by decide), uO (ci := 6) h4 (by decide), o7, uk (ci := 8) h6]
        have up := rOnly.up (S := S4) (r := u) (j := 1) (i := 0) (v := (0 : Int32))
        have v1 : ((up3 S4.1 u 1 0 0, S4.2) : qS).1 u 1 0 = 0 := up3_v
        have vj : ∀ j, j ≠ 1 → ((up3 S4.1 u 1 0 0, S4.2) : qS).1 u j = S4.1 u j := fun j hj => up3_f hj
        generalize ((up3 S4.1 u 1 0 0, S4.2) : qS) = S5 at up v1 vj ⊢
        have s5 : S5.1 s = S4.1 s := up.2 s (NE ()).2.2.2.2.2.2.1
        obtain ⟨S6, t1, t2, t3, t4, t5, t6, t7, t8⟩ := cls_tell (S := S5) (n := n) (u := u) f3 hn hE hC3 hEl3 hhi3 f4 ⟨⟨by rw [up.2 w (NE ()).2.2.1.2.2.2.1, f5.1 w (NE ()).2.2.1.2.1], by rw [up.2 q (NE ()).2.2.2.2.1.2.2, f5.1 q (NE ()).2.2.2.2.1.1]⟩, fun j a b d e => by rw [s5]; exact f5.2.1 j a b d e, trivial⟩ b1 he0 (by rw [s5]; exact b2) (by rw [s5]; exact b3) (by rw [s5]; exact b4)
        rw [t1, yV_some]
        have told := cls_told (u := u) (t0 := t0) (w0 := w0) (S' := S6) (fx := fx) f3 hE hC3 hEl3 hhi3 t5 t6 (fun a ha hd => by rw [t7 a ha hd, vj 0 (by decide), u4']; exact u0 a (by omega)) (fun hd => by rw [t8 hd, vj 3 (by decide), u4']; exact u3)
        refine ⟨S6, 0, rfl, on4.trans (onl.of (up.trans t2) (Or.inr (Or.inr (Or.inr rfl)))), ?_, fun m => ?_, fun j j0 j1 j3 j4 => ?_, fun i hi => ?_, Or.inr ⟨hs, _, hP, g1, Or.inr ⟨rfl, _, e0, ls, he0, ?_, fun e' he' z => fl e' he' ?_, told.1, told.2, ?_⟩⟩⟩
        · rw [t4 1 (by decide) (by decide) (by decide)]; exact v1
        · rw [t2.2 p (NE ()).2.1.2.2.2.2.2, up.2 p (NE ()).2.1.2.2.2.2.2, p4]; exact m01 m
        · rw [t4 j j0 j3 j4, vj j j1, u4']
        · rw [t2.2 p (NE ()).2.1.2.2.2.2.2, up.2 p (NE ()).2.1.2.2.2.2.2, p4]; exact a3 i hi
        · obtain ⟨F, hF⟩ := fF
          exact ⟨F, (eQ.2 _ _).mp hF⟩
        · obtain ⟨F, hF⟩ := z
          exact ⟨F, (eQ.2 _ _).mpr hF⟩
        · rw [t3, q3]
  · rw [if_neg hs, if_neg (by decide), uP (ci := 4) h3 (by decide)]
    have up := rOnly.up (S := S) (r := u) (j := 1) (i := 0) (v := (2 : Int32))
    refine ⟨_, 2, rfl, onl.of up (Or.inr (Or.inr (Or.inr rfl))), up3_v, fun m => ?_, fun j _ j1 _ _ => up3_f j1, fun i _ => ?_, Or.inl ⟨by omega, rfl⟩⟩
    · rw [up.2 p (NE ()).2.1.2.2.2.2.2]; exact h01 m
    · rw [up.2 p (NE ()).2.1.2.2.2.2.2]
end DECIDE
