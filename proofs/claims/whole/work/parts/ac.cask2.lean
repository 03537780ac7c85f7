section CASK2
variable {O : qOb9} {x c u p f w q s l n E N I : Nat} {S : qS} {eS : Nat → Bool}
theorem stpT_same {T : qS} (h1 : T.1 c = S.1 c) (h2 : T.1 f = S.1 f) {t fc : Nat} {st : Nat → Nat} : stpT T c f t fc st = stpT S c f t fc st := by
  funext e
  unfold stpT fSb
  rw [h1, h2]
theorem stpT_fun {T : qS} (h1 : T.1 c = S.1 c) (h2 : T.1 f = S.1 f) {t fc : Nat} : stpT T c f t fc = stpT S c f t fc := by
  funext st
  exact stpT_same h1 h2
/-- both ways go on -/
theorem cls_ask_27 (hO : ClO O x c u p f w q s l) (hn : 7000 ≤ n) (hI : CoI O c f E N I S eS) {d : Nat} (hd : d ≤ 8) {Z : Nat → Prop} (hZ : Z w ∧ Z p) (hZc : ¬ Z c) (hZf : ¬ Z f) :
    ∀ (k i fu : Nat) (T : qS) (M : Nat) (s5 s6 : Nat → Nat), i + k = d → k < fu → onl Z S T → CS O w 5732 2048 T E M → M + 2 * (k * (N - 3)) + N ≤ 5735 → StC T w p 5 E M s5 eS → StC T w p 6 E M s6 eS →
      ∃ T' M', G_XProver_askEquation_27 O n fu p c (nI d) u (nI i) T = yV (G_XProver_plainStep O n p c (p, 6) T') (fun S3 => yV (G_XProver_markInvariants O n p S3) (fun S4 => G_XProver_askEquation_75 O n n p c u 0 S4)) ∧ onl (fun o => o = w ∨ o = p) T T' ∧ (∀ j, j ≠ 4 → j ≠ 5 → j ≠ 6 → T'.1 p j = T.1 p j) ∧ M' ≤ M + 2 * (k * (N - 3)) ∧ Grw O w E T T' M M' ∧ StC T' w p 5 E M' (itr (stpT S c f 2 (pr 0 0)) k s5) eS ∧ StC T' w p 6 E M' (itr (stpT S c f 2 (pr 0 0)) k s6) eS := by
  have hO' := hO
  have NE := fun _ : Unit => ClO_ne hO'
  obtain ⟨⟨h1, h2, h3, h4, h5, h6, h7⟩, _⟩ := hO
  intro k
  induction k with
  | zero =>
    intro i fu T M s5 s6 e hf hT hC hr h5' h6'
    obtain ⟨fu, rfl⟩ : ∃ q, fu = q + 1 := ⟨fu - 1, by omega⟩
    refine ⟨T, M, ?_, onl.refl, fun _ _ _ _ => rfl, by omega, Grw.refl hC, h5', h6'⟩
    rw [G_XProver_askEquation_27, if_pos (nI_le (by omega) (by omega)), uA (ci := 6) h4 (by decide), uk (ci := 6) h4]
    congr 1
    funext S3
    rw [uk (ci := 6) h4]
  | succ k ih =>
    intro i fu T M s5 s6 e hf hT hC hr h5' h6'
    obtain ⟨fu, rfl⟩ : ∃ q, fu = q + 1 := ⟨fu - 1, by omega⟩
    have ek : (k + 1) * (N - 3) = k * (N - 3) + (N - 3) := Nat.succ_mul k (N - 3)
    have tc : T.1 c = S.1 c := (hT c hZc).1
    have tf : T.1 f = S.1 f := (hT f hZf).1
    have hIT := CoI_same hI tc tf
    obtain ⟨T1, M1, e1, o1, p1, m1, g1, t1⟩ := cls_step (O := O) (n := n) hO' hn hIT hC (by omega) (Or.inl rfl) h5' (k := 0) (by omega)
    have tc1 : T1.1 c = S.1 c := by rw [(o1 c (by rintro (z | z); exact (NE ()).1.2.1 z; exact (NE ()).1.1 z)).1, tc]
    have tf1 : T1.1 f = S.1 f := by rw [(o1 f (by rintro (z | z); exact (NE ()).2.2.1.2.2.2.2 z.symm; exact (NE ()).2.1.2.1 z.symm)).1, tf]
    have hIT1 := CoI_same hI tc1 tf1
    have h61 : StC T1 w p 6 E M1 s6 eS := StC_grow hC g1 (p1 6 (by decide) (by decide)) h6'
    obtain ⟨T2, M2, e2, o2, p2, m2, g2, t2⟩ := cls_step (O := O) (n := n) hO' hn hIT1 g1.1 (by omega) (Or.inr rfl) h61 (k := 0) (by omega)
    rw [stpT_same tc tf] at t1
    rw [stpT_same tc1 tf1] at t2
    have h52 : StC T2 w p 5 E M2 (stpT S c f 2 (pr 0 0) s5) eS := StC_grow g1.1 g2 (p2 5 (by decide) (by decide)) t1
    have lift : ∀ {A B : qS}, onl (fun o => o = w ∨ o = p) A B → onl Z A B := fun h => h.mono (fun o ho => by rcases ho with z | z <;> rw [z]; exact hZ.1; exact hZ.2)
    obtain ⟨T3, M3, e3, o3, p3, m3, g3, t3, t3'⟩ := ih (i + 1) fu T2 M2 _ _ (by omega) (by omega) ((hT.trans (lift o1)).trans (lift o2)) g2.1 (by omega) h52 t2
    refine ⟨T3, M3, ?_, (o1.trans o2).trans o3, fun j h4' h5'' h6'' => by rw [p3 j h4' h5'' h6'', p2 j h4' h6'', p1 j h4' h5''], by omega, (g1.trans g2).trans g3, t3, t3'⟩
    rw [nI_0] at e1 e2
    rw [G_XProver_askEquation_27, if_neg (nI_ge (by omega) (by omega)), uA (ci := 6) h4 (by decide), uk (ci := 6) h4, e1, yV_some, uA (ci := 6) h4 (by decide), uk (ci := 6) h4, e2, yV_some, hB_eq, nI_1]
    exact e3
/-- seen elements' nodes are marked, both ways -/
theorem cls_ask_75 (hO : ClO O x c u p f w q s l) (hn : 7000 ≤ n) {B : qS} {M : Nat} (hE : E ≤ 16) (hC : CS O w 5732 2048 B E M) (h6 : B.1 c 6 0 = nI E) {g5 g6 : Nat → Nat} (h5g : ∀ e, e < E → g5 e < M ∧ B.1 p 5 e = nI (g5 e)) (h6g : ∀ e, e < E → g6 e < M ∧ B.1 p 6 e = nI (g6 e)) {T0 : Nat → Prop} :
    ∀ (d e fu : Nat) (T : qS), e + d = E → d < fu → rOnly p B T → (∀ i, i ≠ 3 → T.1 p i = B.1 p i) → MKc T p 3 M (fun m => T0 m ∨ ∃ a, a < e ∧ ¬ B.1 c 3 a = -1 ∧ (m = g5 a ∨ m = g6 a)) →
      ∃ T', G_XProver_askEquation_75 O n fu p c u (nI e) T = yV (G_XProver_countDeep O n p u T') (fun S3 => G_XProver_askEquation_145 O n n p c 0 S3) ∧ rOnly p B T' ∧ (∀ i, i ≠ 3 → T'.1 p i = B.1 p i) ∧ MKc T' p 3 M (fun m => T0 m ∨ ∃ a, a < E ∧ ¬ B.1 c 3 a = -1 ∧ (m = g5 a ∨ m = g6 a)) := by
  have hO' := hO
  have NE := fun _ : Unit => ClO_ne hO'
  have hA := mkP hO'
  obtain ⟨⟨h1, h2, h3, h4, h5, h6', h7⟩, ⟨o1, o2, o3, o4, o5, o6, o7, o8, o9, o10, o11⟩, ⟨n1, n2, n3⟩, ⟨l1, l2, l3, l4, l5, l6⟩, ⟨p3, p4, p5, p6⟩, _⟩ := hO
  have hM := hC.2.2.1
  intro d
  induction d with
  | zero =>
    intro e fu T ee hf hT hp hm
    obtain ⟨fu, rfl⟩ : ∃ q, fu = q + 1 := ⟨fu - 1, by omega⟩
    have e0 : e = E := by omega
    subst e0
    refine ⟨T, ?_, hT, hp, hm⟩
    rw [G_XProver_askEquation_75, uI (ci := 2) h2 (by decide), hT.2 c (NE ()).1.1, h6, if_pos (nI_le (by omega) (by omega)), uk (ci := 6) h4]
  | succ d ih =>
    intro e fu T ee hf hT hp hm
    obtain ⟨fu, rfl⟩ : ∃ q, fu = q + 1 := ⟨fu - 1, by omega⟩
    have tc : T.1 c = B.1 c := hT.2 c (NE ()).1.1
    have e3 : e < oN O c 3 := by rw [l3]; omega
    have ep5 : e < oN O p 5 := by rw [p5]; omega
    have ep6 : e < oN O p 6 := by rw [p6]; omega
    have cT' : CS O w 5732 2048 T E M := CS_other hC (hT.2 w (fun z => (NE ()).2.1.1 z.symm))
    rw [G_XProver_askEquation_75, uI (ci := 2) h2 (by decide), tc, h6, if_neg (nI_ge (by omega) (by omega)), uA (ci := 2) h2 (by decide), ul (ci := 2) h2 (by decide) e3 (by omega), tc]
    by_cases s0 : B.1 c 3 e = -1
    · rw [if_pos s0]
      unfold G_XProver_askEquation_131
      rw [hB_eq, nI_1]
      refine ih (e + 1) fu T (by omega) (by omega) hT hp (MKc_iff hm (fun m hm' => ⟨?_, ?_⟩))
      · rintro (y | ⟨a, ha, y⟩)
        · exact Or.inl y
        · exact Or.inr ⟨a, by omega, y⟩
      · rintro (y | ⟨a, ha, y⟩)
        · exact Or.inl y
        · by_cases z : a = e
          · rw [z] at y; exact absurd s0 y.1
          · exact Or.inr ⟨a, by omega, y⟩
    · obtain ⟨a5, b5⟩ := h5g e (by omega)
      obtain ⟨a6, b6⟩ := h6g e (by omega)
      obtain ⟨T1, t1, t2, t3, t4⟩ := cls_mark_MK (O := O) (n := n) hA cT' hM a5 hm
      have cT1 : CS O w 5732 2048 T1 E M := CS_other cT' (t2.2 w (fun z => (NE ()).2.1.1 z.symm))
      obtain ⟨T2, y1, y2, y3, y4⟩ := cls_mark_MK (O := O) (n := n) hA cT1 hM a6 t4
      have t16 : T1.1 p 6 e = nI (g6 e) := by rw [t3 6 (by decide), hp 6 (by decide)]; exact b6
      rw [if_neg s0, uO (ci := 6) h4 (by decide), o5, uA (ci := 6) h4 (by decide), uA (ci := 6) h4 (by decide), ul (ci := 6) h4 (by decide) ep5 (by omega), hp 5 (by decide), b5, uk (ci := 3) n2.1, t1, yV_some, uO (ci := 6) h4 (by decide), o5, uA (ci := 6) h4 (by decide), uA (ci := 6) h4 (by decide), ul (ci := 6) h4 (by decide) ep6 (by omega), t16, uk (ci := 3) n2.1, y1, yV_some]
      unfold G_XProver_askEquation_131
      rw [hB_eq, nI_1]
      refine ih (e + 1) fu T2 (by omega) (by omega) (hT.trans (t2.trans y2)) (fun i hi => by rw [y3 i hi, t3 i hi, hp i hi]) (MKc_iff y4 (fun m hm' => ⟨?_, ?_⟩))
      · rintro (((y | ⟨a, ha, y⟩) | y) | y)
        · exact Or.inl y
        · exact Or.inr ⟨a, by omega, y⟩
        · exact Or.inr ⟨e, by omega, s0, Or.inl y⟩
        · exact Or.inr ⟨e, by omega, s0, Or.inr y⟩
      · rintro (y | ⟨a, ha, hs, y⟩)
        · exact Or.inl (Or.inl (Or.inl y))
        · by_cases z : a = e
          · subst z
            rcases y with y | y
            · exact Or.inl (Or.inr y)
            · exact Or.inr y
          · exact Or.inl (Or.inl (Or.inr ⟨a, by omega, hs, y⟩))
/-- claims of the seen elements below e: K of them -/
def QCe (S : qS) (q w M K e : Nat) (c1 c2 : Nat → Nat) (sn : Nat → Bool) : Prop := S.1 q 4 0 = nI K ∧ K ≤ e ∧
  (∀ i, i < K → ∃ v a, v < M ∧ a < e ∧ sn a = true ∧ S.1 q 1 i = nI v ∧ S.1 q 2 i = nI a ∧ cCd S w v = dfc (c1 a) (c2 a) ∧ cWd S w v = false ∧ v ≠ 0) ∧
  (∀ i j a b, i < j → j < K → S.1 q 2 i = nI a → S.1 q 2 j = nI b → a < 16 → b < 16 → a < b) ∧
  ∀ a, a < e → sn a = true → dfc (c1 a) (c2 a) = cF ∨ ∃ i, i < K ∧ S.1 q 2 i = nI a
theorem cls_ask_145 (hO : ClO O x c u p f w q s l) (hn : 7000 ≤ n) {B : qS} {M0 : Nat} (hE : E ≤ 16) (hC : CS O w 5732 2048 B E M0) (h6 : B.1 c 6 0 = nI E) (hr : M0 + 2 * E ≤ 5732) {g5 g6 : Nat → Nat} {c1 c2 : Nat → Nat} (h5g : ∀ e, e < E → g5 e < M0 ∧ B.1 p 5 e = nI (g5 e) ∧ cCd B w (g5 e) = c1 e) (h6g : ∀ e, e < E → g6 e < M0 ∧ B.1 p 6 e = nI (g6 e) ∧ cWd B w (g5 e) = cWd B w (g6 e) ∧ (¬ B.1 c 3 e = -1 → cCd B w (g6 e) = c2 e)) {sn : Nat → Bool} (hsn : ∀ e, sn e = true ↔ e < E ∧ ¬ B.1 c 3 e = -1) :
    ∀ (d e fu : Nat) (T : qS) (M K : Nat), e + d = E → d < fu → onl (fun o => o = w ∨ o = q) B T → Grw O w E B T M0 M → M ≤ M0 + 2 * e → (∀ j, j ≠ 1 → j ≠ 2 → j ≠ 4 → T.1 q j = B.1 q j) → QCe T q w M K e c1 c2 sn →
      ∃ T' M' K', G_XProver_askEquation_145 O n fu p c (nI e) T = some ((), T') ∧ onl (fun o => o = w ∨ o = q) B T' ∧ Grw O w E B T' M0 M' ∧ (∀ j, j ≠ 1 → j ≠ 2 → j ≠ 4 → T'.1 q j = B.1 q j) ∧ QCe T' q w M' K' E c1 c2 sn := by
  have hO' := hO
  have NE := fun _ : Unit => ClO_ne hO'
  obtain ⟨⟨h1, h2, h3, h4, h5, h6', h7⟩, ⟨o1, o2, o3, o4, o5, o6, o7, o8, o9, o10, o11⟩, ⟨n1, n2, n3⟩, ⟨l1, l2, l3, l4, l5, l6⟩, ⟨p3, p4, p5, p6⟩, ⟨ql0, ql1, ql2⟩, _⟩ := hO
  intro d
  induction d with
  | zero =>
    intro e fu T M K ee hf hT hG hM hq hQ
    obtain ⟨fu, rfl⟩ : ∃ q, fu = q + 1 := ⟨fu - 1, by omega⟩
    have e0 : e = E := by omega
    subst e0
    refine ⟨T, M, K, ?_, hT, hG, hq, hQ⟩
    rw [G_XProver_askEquation_145, uI (ci := 2) h2 (by decide), (hT c (by rintro (z | z); exact (NE ()).1.2.1 z; exact (NE ()).1.2.2.2.1 z)).1, h6, if_pos (nI_le (by omega) (by omega))]
  | succ d ih =>
    intro e fu T M K ee hf hT hG hM hq hQ
    obtain ⟨fu, rfl⟩ : ∃ q, fu = q + 1 := ⟨fu - 1, by omega⟩
    have tc : T.1 c = B.1 c := (hT c (by rintro (z | z); exact (NE ()).1.2.1 z; exact (NE ()).1.2.2.2.1 z)).1
    have tp : T.1 p = B.1 p := (hT p (by rintro (z | z); exact (NE ()).2.1.1 z; exact (NE ()).2.1.2.2.1 z)).1
    have e3 : e < oN O c 3 := by rw [l3]; omega
    have ep5 : e < oN O p 5 := by rw [p5]; omega
    have ep6 : e < oN O p 6 := by rw [p6]; omega
    have hM31 := (CS_big hG.1).1
    rw [G_XProver_askEquation_145, uI (ci := 2) h2 (by decide), tc, h6, if_neg (nI_ge (by omega) (by omega)), uA (ci := 2) h2 (by decide), ul (ci := 2) h2 (by decide) e3 (by omega), tc]
    by_cases s0 : B.1 c 3 e = -1
    · rw [if_pos s0]
      unfold G_XProver_askEquation_195
      rw [hB_eq, nI_1]
      have hns : ¬ sn e = true := fun z => ((hsn e).mp z).2 s0
      obtain ⟨a1, a2, a3, a4, a5⟩ := hQ
      refine ih (e + 1) fu T M K (by omega) (by omega) hT hG (by omega) hq ⟨a1, by omega, fun i hi => ?_, a4, fun a ha hs => ?_⟩
      · obtain ⟨v, a, y1, y2, y3⟩ := a3 i hi
        exact ⟨v, a, y1, by omega, y3⟩
      · by_cases z : a = e
        · rw [z] at hs; exact absurd hs hns
        · exact a5 a (by omega) hs
    · obtain ⟨a5, b5, d5⟩ := h5g e (by omega)
      obtain ⟨a6, b6, w6, d6'⟩ := h6g e (by omega)
      have d6 := d6' s0
      have hse := (hsn e).mpr ⟨by omega, s0⟩
      obtain ⟨k5, k5w⟩ := Grw.cd hC hG a5
      obtain ⟨k6, k6w⟩ := Grw.cd hC hG a6
      have hle := hG.2.1
      obtain ⟨v, M1, T1, t1, t2, t3, t4, t5, t6, t7⟩ := cls_diff (O := O) (n := n) hO' hn hE hG.1 (by omega) (show g5 e < M by omega) (show g6 e < M by omega) (by rw [k5w, k6w, w6])
      rw [k5, k6, d5, d6] at t6
      have t1q : T1.1 q = T.1 q := t5.2 q (fun z => (NE ()).2.2.1.1 z.symm)
      have lt1 := t4.2.1
      obtain ⟨q1, q2, q3, q4, q5⟩ := hQ
      have hv6 : v < 6000 := by have := t4.1.2.2.1; omega
      obtain ⟨c0, c1'⟩ := cls_addClaim (O := O) (n := n) h5 ql1 ql2 (show K < 16 by omega) (T := T1) (by rw [t1q]; exact q1) hv6 (e := nI e)
      have lift : ∀ i, i < K → ∃ v a, v < M1 ∧ a < e ∧ sn a = true ∧ T1.1 q 1 i = nI v ∧ T1.1 q 2 i = nI a ∧ cCd T1 w v = dfc (c1 a) (c2 a) ∧ cWd T1 w v = false ∧ v ≠ 0 := fun i hi => by
        obtain ⟨v', a, y1, y2, y3, y4, y5, y6, y7, y8⟩ := q3 i hi
        obtain ⟨z1, z2⟩ := Grw.cd hG.1 t4 y1
        exact ⟨v', a, by omega, y2, y3, by rw [t1q]; exact y4, by rw [t1q]; exact y5, by rw [z1]; exact y6, by rw [z2]; exact y7, y8⟩
      rw [if_neg s0, uO (ci := 6) h4 (by decide), o6, uO (ci := 6) h4 (by decide), o5, uA (ci := 6) h4 (by decide), ul (ci := 6) h4 (by decide) ep5 (by omega), tp, b5, uA (ci := 6) h4 (by decide), ul (ci := 6) h4 (by decide) ep6 (by omega), tp, b6, uk (ci := 3) n2.1, t1, yC_some, uk (ci := 7) h5]
      have onT1 : onl (fun o => o = w ∨ o = q) B T1 := hT.trans (onl.of t5 (Or.inl rfl))
      have gT1 : Grw O w E B T1 M0 M1 := hG.trans t4
      by_cases v0 : v = 0
      · rw [c0 v0, yV_some]
        unfold G_XProver_askEquation_195
        rw [hB_eq, nI_1]
        have hcF : dfc (c1 e) (c2 e) = cF := by rw [← t6, v0]; exact (cd_0 t4.1.2.2.2.1 (CS_big t4.1).1 hE).1
        refine ih (e + 1) fu T1 M1 K (by omega) (by omega) onT1 gT1 (by omega) (fun j j1 j2 j4 => by rw [t1q]; exact hq j j1 j2 j4) ⟨by rw [t1q]; exact q1, by omega, fun i hi => ?_, by rw [t1q]; exact q4, fun a ha hs => ?_⟩
        · obtain ⟨v', a, y1, y2, y3⟩ := lift i hi
          exact ⟨v', a, y1, by omega, y3⟩
        · by_cases z : a = e
          · rw [z]; exact Or.inl hcF
          · rw [t1q]; exact q5 a (by omega) hs
      · obtain ⟨T2, y1, y2, y3, y4, y5, y6, y7⟩ := c1' v0
        rw [y1, yV_some]
        unfold G_XProver_askEquation_195
        rw [hB_eq, nI_1]
        have tw : T2.1 w = T1.1 w := y2.2 w (NE ()).2.2.1.1
        have cde : ∀ m, cCd T2 w m = cCd T1 w m ∧ cWd T2 w m = cWd T1 w m := fun m => by unfold cCd cWd; rw [tw]; exact ⟨rfl, rfl⟩
        have gT2 : Grw O w E B T2 M0 M1 := by
          obtain ⟨z1, z2, z3, z4⟩ := gT1
          exact ⟨CS_other z1 tw, z2, fun m a1 a2 => by rw [tw]; exact z3 m a1 a2, fun j m a1 a2 => by rw [tw]; exact z4 j m a1 a2⟩
        refine ih (e + 1) fu T2 M1 (K + 1) (by omega) (by omega) (onT1.trans (onl.of y2 (Or.inr rfl))) gT2 (by omega) (fun j j1 j2 j4 => by rw [y7 j j1 j2 j4, t1q]; exact hq j j1 j2 j4) ⟨y3, by omega, fun i hi => ?_, fun i j a b hij hj ea eb ha hb => ?_, fun a ha hs => ?_⟩
        · by_cases z : i = K
          · subst z
            exact ⟨v, e, t2, by omega, hse, y4, y5, by rw [(cde v).1]; exact t6, by rw [(cde v).2]; exact t7, v0⟩
          · obtain ⟨v', a, z1, z2, z3, z4, z5, z6, z7, z8⟩ := lift i (by omega)
            exact ⟨v', a, z1, by omega, z3, by rw [(y6 i z).1]; exact z4, by rw [(y6 i z).2]; exact z5, by rw [(cde v').1]; exact z6, by rw [(cde v').2]; exact z7, z8⟩
        · by_cases zj : j = K
          · subst zj
            rw [y5] at eb
            have hbe := (nI_eq (by omega) (by omega)).mp eb
            obtain ⟨v', a', z1, z2, z3, z4, z5, _⟩ := lift i hij
            rw [(y6 i (by omega)).2, z5] at ea
            have := (nI_eq (by omega) (by omega)).mp ea
            omega
          · rw [(y6 i (by omega)).2, t1q] at ea
            rw [(y6 j zj).2, t1q] at eb
            exact q4 i j a b hij (by omega) ea eb ha hb
        · by_cases z : a = e
          · subst z; exact Or.inr ⟨K, by omega, y5⟩
          · rcases q5 a (by omega) hs with r1 | ⟨i, hi, ei⟩
            · exact Or.inl r1
            · exact Or.inr ⟨i, by omega, by rw [(y6 i (by omega)).2, t1q]; exact ei⟩
end CASK2
