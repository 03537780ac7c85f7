/-! THE CLASS ASKS -/
/-- the code of a difference -/
def dfc (a b : Nat) : Nat := if a = b then cF else if wc a = true then mkN (mkE a b) else mkC a (mkN b) b
section CASK
variable {O : qOb9} {x c u p f w q s l n E N I : Nat} {S : qS} {eS : Nat → Bool}
/-- the marks of the prover -/
theorem mkP (hO : ClO O x c u p f w q s l) : MkA O w p 6 3 5732 := by
  have NE := fun _ : Unit => ClO_ne hO
  obtain ⟨⟨h1, h2, h3, h4, h5, h6, h7⟩, _, _, _, ⟨p3, p4, p5, p6⟩, _⟩ := hO
  exact ⟨h4, by decide, p3, fun e => (NE ()).2.1.1 e.symm, by omega⟩
theorem cls_diff (hO : ClO O x c u p f w q s l) (hn : 7000 ≤ n) (hE : E ≤ 16) {M : Nat} (hC : CS O w 5732 2048 S E M) (hr : M + 2 ≤ 5732) {a b : Nat} (ha : a < M) (hb : b < M) (hw : cWd S w a = cWd S w b) :
    ∃ v M' S', G_XNodes_makeDifference O n w (nI a) (nI b) S = some (nI v, S') ∧ v < M' ∧ M' ≤ M + 2 ∧ Grw O w E S S' M M' ∧ rOnly w S S' ∧ cCd S' w v = dfc (cCd S w a) (cCd S w b) ∧ cWd S' w v = false := by
  obtain ⟨⟨h1, h2, h3, h4, h5, h6, h7⟩, _, ⟨n1, n2, n3⟩, _⟩ := hO
  obtain ⟨hM31, hM3⟩ := CS_big hC
  have wcs : ∀ {T : qS} {MT v : Nat}, CS O w 5732 2048 T E MT → v < MT → wc (cCd T w v) = cWd T w v := fun hT hv => cd_wc hT.2.2.2.1.2.1 (CS_big hT).1 hE _ hv
  have grw : ∀ {T T' : qS} {MT MT' v cc : Nat}, MkC O w 5732 2048 E T T' MT MT' v cc → Grw O w E T T' MT MT' := fun h => ⟨h.2.2.2.1, h.2.1, h.2.2.2.2.2.2.2, h.2.2.2.2.2.1⟩
  unfold G_XNodes_makeDifference dfc
  by_cases e : a = b
  · subst e
    rw [if_pos rfl, if_pos rfl]
    have c0 := (cd_0 hC.2.2.2.1 hM31 hE).1
    refine ⟨0, M, S, rfl, by omega, by omega, Grw.refl hC, rOnly.refl, c0, ?_⟩
    rw [← wcs hC (by omega), show cCd S w 0 = cF from c0, wc_pr (by decide)]; rfl
  · rw [if_neg (fun z => e ((nI_eq (by omega) (by omega)).mp z)), if_neg (fun z => e (cd_inj hC.2.2.2.1 hM31 hE a b ha hb z)), uk (ci := 3) n2.1, cls_isWord hC, yC_some, inN_nI hM31 ha, nI_clamp (by omega), Bool.true_and, wcs hC ha, bN_if]
    cases z : cWd S w a with
    | false =>
      show ∃ v M' S', hk 3 O w (yC (G_XNodes_makeNot O n w (nI b) S) _) = some (nI v, S') ∧ _
      rw [if_neg (by decide), uk (ci := 3) n2.1]
      obtain ⟨v1, M1, S1, e1, k1⟩ := cls_mk7 (O := O) (n := n) hn hE hC (by omega) hb (by rw [← hw]; exact z)
      have g1 := grw k1
      have c1 := k1.2.2.2.1
      rw [e1, yC_some, uk (ci := 3) n2.1]
      have hle := k1.2.1
      have hle2 := k1.2.2.1
      obtain ⟨ga, gaw⟩ := Grw.cd hC g1 ha
      obtain ⟨gb, gbw⟩ := Grw.cd hC g1 hb
      have wv1 : cWd S1 w v1 = false := by
        rw [← wcs c1 k1.1, k1.2.2.2.2.2.2.1]
        exact wc_mkN hC.2.2.2.1 hM31 hE hb (by have := hw; unfold cWd at this z; rw [← this]; exact z)
      have wb1 : cWd S1 w b = false := by rw [gbw, ← hw]; exact z
      obtain ⟨v2, M2, S2, e2, k2⟩ := cls_mk9 (O := O) (n := n) hn hE c1 (by omega) (show a < M1 by omega) k1.1 (show b < M1 by omega) (by rw [gaw]; exact z) (by rw [wv1, wb1])
      rw [e2, yC_some]
      have g2 := grw k2
      have c2 := k2.2.2.2.1
      refine ⟨v2, M2, S2, rfl, k2.1, by have := k2.2.2.1; omega, g1.trans g2, k1.2.2.2.2.1.trans k2.2.2.2.2.1, ?_, ?_⟩
      · rw [k2.2.2.2.2.2.2.1, ga, gb, k1.2.2.2.2.2.2.1]
      · rw [← wcs c2 k2.1, k2.2.2.2.2.2.2.1, wc_mkC (by rw [wcs c1 k1.1, wcs c1 (by omega), wv1, wb1]), wcs c1 k1.1, wv1]
    | true =>
      show ∃ v M' S', hk 3 O w (yC (G_XNodes_makeEquality O n w (nI a) (nI b) S) _) = some (nI v, S') ∧ _
      rw [if_pos rfl, uk (ci := 3) n2.1]
      obtain ⟨v1, M1, S1, e1, k1⟩ := cls_mk6 (O := O) (n := n) hn hE hC (by omega) ha hb z (by rw [← hw]; exact z)
      have g1 := grw k1
      have c1 := k1.2.2.2.1
      have hle := k1.2.1
      have hle2 := k1.2.2.1
      rw [e1, yC_some, uk (ci := 3) n2.1]
      have wv1 : cWd S1 w v1 = false := by rw [← wcs c1 k1.1, k1.2.2.2.2.2.2.1, wc_mkE]
      obtain ⟨v2, M2, S2, e2, k2⟩ := cls_mk7 (O := O) (n := n) hn hE c1 (by omega) k1.1 wv1
      rw [e2, yC_some]
      have g2 := grw k2
      have c2 := k2.2.2.2.1
      refine ⟨v2, M2, S2, rfl, k2.1, by have := k2.2.2.1; omega, g1.trans g2, k1.2.2.2.2.1.trans k2.2.2.2.2.1, ?_, ?_⟩
      · rw [k2.2.2.2.2.2.2.1, k1.2.2.2.2.2.2.1]
      · rw [← wcs c2 k2.1, k2.2.2.2.2.2.2.1]
        exact wc_mkN c1.2.2.2.1 (CS_big c1).1 hE k1.1 wv1
/-- claims: one for each of these elements whose codes differ, in order -/
def QC (S : qS) (q w M K : Nat) (cl : Nat → Nat) (ce : Nat → Int32) : Prop := S.1 q 4 0 = nI K ∧ ∀ i, i < K → ∃ v, v < M ∧ S.1 q 1 i = nI v ∧ S.1 q 2 i = ce i ∧ cCd S w v = cl i ∧ cWd S w v = false
theorem cls_addClaim (h5 : oC O q = 8) (l1 : oN O q 1 = 16) (l2 : oN O q 2 = 16) {k : Nat} (hk : k < 16) {T : qS} (h4 : T.1 q 4 0 = nI k) {v : Nat} (hv : v < 6000) {e : Int32} :
    (v = 0 → G_XQuestion_addClaim O n q (nI v) e T = some ((), T)) ∧ (v ≠ 0 → ∃ T', G_XQuestion_addClaim O n q (nI v) e T = some ((), T') ∧ rOnly q T T' ∧ T'.1 q 4 0 = nI (k + 1) ∧ T'.1 q 1 k = nI v ∧ T'.1 q 2 k = e ∧ (∀ i, i ≠ k → T'.1 q 1 i = T.1 q 1 i ∧ T'.1 q 2 i = T.1 q 2 i) ∧ ∀ j, j ≠ 1 → j ≠ 2 → j ≠ 4 → T'.1 q j = T.1 q j) := by
  have k1 : k < oN O q 1 := by rw [l1]; exact hk
  have k2 : k < oN O q 2 := by rw [l2]; exact hk
  unfold G_XQuestion_addClaim G_XQuestion_addClaim_46
  constructor
  · intro z
    rw [z, if_pos (by decide)]
  · intro z
    rw [if_neg (show ¬ nI v ≤ (0 : Int32) from nI_ge (a := 0) (b := v) (by omega) (by omega)), uI (ci := 7) h5 (by decide), h4, uA (ci := 7) h5 (by decide), un (ci := 7) h5 (by decide), l1, if_neg (nI_ge hk (by omega)), uA (ci := 7) h5 (by decide), uI (ci := 7) h5 (by decide), h4, uw (ci := 7) h5 (by decide) k1 (by omega), uA (ci := 7) h5 (by decide), uI (ci := 7) h5 (by decide), up3_f (by decide), h4, uw (ci := 7) h5 (by decide) k2 (by omega), uI (ci := 7) h5 (by decide), up3_f (by decide), up3_f (by decide), h4, uP (ci := 7) h5 (by decide), nI_1]
    refine ⟨_, rfl, rOnly.up.trans (rOnly.up.trans rOnly.up), up3_v, ?_, ?_, fun i hi => ⟨?_, ?_⟩, fun j j1 j2 j4 => ?_⟩
    · rw [up3_f (by decide), up3_f (by decide), up3_v]
    · rw [up3_f (by decide), up3_v]
    · rw [up3_f (by decide), up3_f (by decide), up3_o hi]
    · rw [up3_f (by decide), up3_o hi, up3_f (by decide)]
    · rw [up3_f j4, up3_f j2, up3_f j1]
end CASK
