/-! THE CLASS MAKES ALL NODES ANEW -/
abbrev fSb (S : qS) (f : Nat) (st : Nat → Nat) (fc n : Nat) : Nat := sb (S.1 f 0) (S.1 f 1) (S.1 f 2) (S.1 f 3) st fc n
/-- nothing but these objects has changed -/
def onl (Z : Nat → Prop) (S S' : qS) : Prop := ∀ o, ¬ Z o → S'.1 o = S.1 o ∧ S'.2 o = S.2 o
theorem onl.refl {Z : Nat → Prop} {S : qS} : onl Z S S := fun _ _ => ⟨rfl, rfl⟩
theorem onl.trans {Z : Nat → Prop} {S S1 S2 : qS} (h1 : onl Z S S1) (h2 : onl Z S1 S2) : onl Z S S2 := fun o ho => ⟨(h2 o ho).1.trans (h1 o ho).1, (h2 o ho).2.trans (h1 o ho).2⟩
theorem onl.mono {Z Z' : Nat → Prop} {S S' : qS} (h : onl Z S S') (hz : ∀ o, Z o → Z' o) : onl Z' S S' := fun o ho => h o (fun q => ho (hz o q))
theorem onl.of {a : Nat} {Z : Nat → Prop} {S S' : qS} (h : rOnly a S S') (ha : Z a) : onl Z S S' := fun o ho => ⟨h.2 o (fun e => ho (by rw [e]; exact ha)), by rw [h.1]⟩
theorem onl.up {Z : Nat → Prop} {S : qS} {o j i : Nat} {v : Int32} (ha : Z o) : onl Z S (up3 S.1 o j i v, S.2) := onl.of rOnly.up ha
theorem up3_q {S : qS} {o j i o' : Nat} {v : Int32} (h : o' ≠ o) : ((up3 S.1 o j i v, S.2) : qS).1 o' = S.1 o' := by
  funext j' i'
  exact up3_ne (fun q => h q.1)
/-- what is fixed while the work store grows: face f, store w, images of p -/
def RmO (O : qOb9) (w f p : Nat) (S : qS) (E N : Nat) : Prop := CS O f 300 256 S E N ∧ E ≤ 16 ∧ oC O p = 7 ∧ oN O p 4 = 300 ∧ w ≠ f ∧ w ≠ p ∧ f ≠ p
/-- each face node has its image -/
def Img (S : qS) (w f p : Nat) (S0 : qS) (st : Nat → Nat) (fc M m : Nat) : Prop := ∃ v, v < M ∧ S.1 p 4 m = nI v ∧ cCd S w v = fSb S0 f st fc m ∧ cWd S w v = cWd S0 f m
def RmI (O : qOb9) (w f p E N M0 : Nat) (S0 : qS) (st : Nat → Nat) (fc : Nat) (S : qS) (M i : Nat) : Prop :=
  CS O w 5732 2048 S E M ∧ (M0 ≤ M ∧ M ≤ M0 + (i - 3) ∧ ∀ m, M0 ≤ m → m < M → ¬ S.1 w 0 m ≤ 4) ∧ onl (fun o => o = w ∨ o = p) S0 S ∧ (∀ j, j ≠ 4 → S.1 p j = S0.1 p j) ∧ (∀ j m, j ≤ 4 → m < M0 → S.1 w j m = S0.1 w j m) ∧
  ∀ m, m < N → (m < i ∨ S0.1 f 0 m ≤ 4) → Img S w f p S0 st fc M m
section REMAKE
variable {O : qOb9} {w f p n E N M0 : Nat} {S0 : qS} {st : Nat → Nat} {fc : Nat}
theorem RmI_put {S S1 : qS} {M M1 i v : Nat} (hO : RmO O w f p S0 E N) (hi : i < N) (h3i : 3 ≤ i) (hP : RmI O w f p E N M0 S0 st fc S M i) (hM : MkC O w 5732 2048 E S S1 M M1 v (fSb S0 f st fc i)) (hw : cWd S1 w v = cWd S0 f i) : RmI O w f p E N M0 S0 st fc (up3 S1.1 p 4 i (nI v), S1.2) M1 (i + 1) := by
  obtain ⟨oF, hE, oP, oL, wf, wp, fp⟩ := hO
  obtain ⟨x1, ⟨x2, x3, x4⟩, x5, x6, x7, x8⟩ := hP
  obtain ⟨m1, m2, m3, m4, m5, m6, m7, m8⟩ := hM
  have ew : ((up3 S1.1 p 4 i (nI v), S1.2) : qS).1 w = S1.1 w := up3_q wp
  have cs : CS O w 5732 2048 (up3 S1.1 p 4 i (nI v), S1.2) E M1 := by
    unfold CS at m4 ⊢
    rw [ew]; exact m4
  refine ⟨cs, ⟨by omega, by omega, fun m h1 h2 => ?_⟩, (x5.trans (onl.of m5 (Or.inl rfl))).trans (onl.up (Or.inr rfl)), fun j hj => ?_, fun j m hj hm => ?_, fun m hm hc => ?_⟩
  · rw [ew]
    by_cases q : m < M
    · rw [m6 0 m (by omega) q]; exact x4 m h1 q
    · exact m8 m (by omega) h2
  · rw [up3_f hj, m5.2 p (fun e => wp e.symm)]; exact x6 j hj
  · rw [ew, m6 j m hj (by omega)]; exact x7 j m hj hm
  · have lift : ∀ u, u < M → cCd (up3 S1.1 p 4 i (nI v), S1.2) w u = cCd S w u ∧ cWd (up3 S1.1 p 4 i (nI v), S1.2) w u = cWd S w u := fun u hu => by
      have h1 := CS_cd x1 m6 hu
      have h2 := CS_wd x1 m6 hu
      unfold cCd at h1 ⊢
      unfold cWd at h2 ⊢
      rw [ew]
      exact ⟨h1, h2⟩
    by_cases e : m = i
    · subst e
      refine ⟨v, m1, up3_v, ?_, ?_⟩
      · unfold cCd; rw [ew]; exact m7
      · unfold cWd; rw [ew]; exact hw
    · obtain ⟨u, u1, u2, u3, u4⟩ := x8 m hm (hc.elim (fun q => Or.inl (by omega)) Or.inr)
      refine ⟨u, by omega, ?_, ?_, ?_⟩
      · rw [up3_o e, m5.2 p (fun e => wp e.symm)]; exact u2
      · rw [(lift u u1).1]; exact u3
      · rw [(lift u u1).2]; exact u4
theorem RmI_skip {S : qS} {M i : Nat} (hP : RmI O w f p E N M0 S0 st fc S M i) (hk : S0.1 f 0 i ≤ 4) : RmI O w f p E N M0 S0 st fc S M (i + 1) := by
  obtain ⟨x1, ⟨x2, x3, x4⟩, x5, x6, x7, x8⟩ := hP
  refine ⟨x1, ⟨x2, by omega, x4⟩, x5, x6, x7, fun m hm hc => x8 m hm ?_⟩
  by_cases e : m = i
  · rw [e]; exact Or.inr hk
  · exact hc.elim (fun q => Or.inl (by omega)) Or.inr
theorem cls_imageOf {S : qS} (oP : oC O p = 7) (oL : oN O p 4 = 300) : (∀ m, m < 300 → G_XNodes_imageOf O n (p, 4) (nI m) S = some (S.1 p 4 m, S)) ∧ G_XNodes_imageOf O n (p, 4) (-1) S = some (-1, S) := by
  constructor
  · intro m hm
    unfold G_XNodes_imageOf G_XNodes_imageOf_17
    rw [if_neg (nI_pos (by omega)), un (ci := 6) oP (by decide), oL, if_neg (nI_ge (by omega) (by omega)), ul (ci := 6) oP (by decide) (by rw [oL]; exact hm) (by omega)]
  · unfold G_XNodes_imageOf
    rw [if_pos (by decide)]
    rfl
theorem cls_remake_2 (hn : 7000 ≤ n) (hO : RmO O w f p S0 E N) (hroom : M0 + N ≤ 5735) :
    ∀ (d i fu : Nat) (S : qS) (M : Nat), i + d = N → d < fu → RmI O w f p E N M0 S0 st fc S M i → ∃ S' M', G_XNodes_remakeAll_2 O n fu w f (p, 4) (nI i) S = some ((), S') ∧ RmI O w f p E N M0 S0 st fc S' M' N := by
  have hO' := hO
  obtain ⟨oF, hE, oP, oL, wf, wp, fp⟩ := hO
  obtain ⟨hNd, hF7, hF3, hFS, hFw, hFc⟩ := oF
  have rOk := hFS.2.1
  intro d
  induction d with
  | zero =>
    intro i fu S M e hf hP
    obtain ⟨fu, rfl⟩ : ∃ q, fu = q + 1 := ⟨fu - 1, by omega⟩
    have ef : S.1 f = S0.1 f := (hP.2.2.1 f (by rintro (q | q); exact wf q.symm; exact fp q)).1
    rw [G_XNodes_remakeAll_2, uI (ci := 3) hNd.1 (by decide), ef, hF7, if_pos (nI_le (by omega) (by omega))]
    have e0 : i = N := by omega
    subst e0
    exact ⟨S, M, rfl, hP⟩
  | succ d ih =>
    intro i fu S M e hf hP
    obtain ⟨fu, rfl⟩ : ∃ q, fu = q + 1 := ⟨fu - 1, by omega⟩
    have hP' := hP
    obtain ⟨x1, ⟨x2, x3, x4⟩, x5, x6, x7, x8⟩ := hP
    have ef : S.1 f = S0.1 f := (x5 f (by rintro (q | q); exact wf q.symm; exact fp q)).1
    have hi : i < N := by omega
    have i0 : i < oN O f 0 := by rw [hNd.2.1 0 (by omega)]; omega
    have i1 : i < oN O f 1 := by rw [hNd.2.1 1 (by omega)]; omega
    have i2 : i < oN O f 2 := by rw [hNd.2.1 2 (by omega)]; omega
    have i3 : i < oN O f 3 := by rw [hNd.2.1 3 (by omega)]; omega
    have is : i < 2 ^ 31 := by omega
    have ip : i < oN O p 4 := by rw [oL]; omega
    have hw1 := x1.1.1
    have fin : 3 ≤ i → ∀ (S1 : qS) (M1 v : Nat), MkC O w 5732 2048 E S S1 M M1 v (fSb S0 f st fc i) → cWd S1 w v = cWd S0 f i → ∃ S' M', (hw 0 O S1 (p, 4) (nI i) (nI v) (fun S5 => G_XNodes_remakeAll_164 O n (G_XNodes_remakeAll_2 O n fu) w f (p, 4) (nI i) S5)) = some ((), S') ∧ RmI O w f p E N M0 S0 st fc S' M' N := by
      intro h3i S1 M1 v hM hwv
      rw [uw (ci := 6) oP (by decide) ip is]
      unfold G_XNodes_remakeAll_164
      rw [hB_eq, nI_1]
      exact ih (i + 1) fu _ M1 (by omega) (by omega) (RmI_put hO' hi h3i hP' hM hwv)
    have skip : S0.1 f 0 i ≤ 4 → ∃ S' M', G_XNodes_remakeAll_164 O n (G_XNodes_remakeAll_2 O n fu) w f (p, 4) (nI i) S = some ((), S') ∧ RmI O w f p E N M0 S0 st fc S' M' N := by
      intro hk
      unfold G_XNodes_remakeAll_164
      rw [hB_eq, nI_1]
      exact ih (i + 1) fu S M (by omega) (by omega) (RmI_skip hP' hk)
    obtain ⟨im1, im2⟩ := cls_imageOf (O := O) (n := n) (S := S) oP oL
    have old : ∀ x, x < i → Img S w f p S0 st fc M x := fun x hx => x8 x (by omega) (Or.inl hx)
    have wdn : ∀ {S1 : qS} {M1 v c : Nat}, MkC O w 5732 2048 E S S1 M M1 v c → cWd S1 w v = wc c := by
      intro S1 M1 v c hM
      obtain ⟨m1, m2, m3, m4, m5, m6, m7, m8⟩ := hM
      rw [← m7]
      exact (cd_wc m4.2.2.2.1.2.1 (CS_big m4).1 hE v m1).symm
    obtain ⟨hM31, hM3⟩ := CS_big x1
    rw [G_XNodes_remakeAll_2, uI (ci := 3) hNd.1 (by decide), ef, hF7, if_neg (nI_ge (by omega) (by omega)), un (ci := 6) oP (by decide), oL, if_neg (nI_ge (by omega) (by omega)), uA (ci := 3) hNd.1 (by decide), ul (ci := 3) hNd.1 (by decide) i1 is, ef]
    rcases cd_row rOk (by omega) hE hi with ⟨h0, k, ea, ec⟩ | ⟨h0, a, ha, k, ea, ec⟩ | ⟨h0, a, ha, k, ea, ec⟩ | ⟨h0, x, g, hx, hg, k, ex, ey, eg, wx, ec⟩ | ⟨h0, x, y, g, hx, hy, hg, k, ex, ey, eg, wx, wy, ec⟩ | ⟨h0, x, y, hx, hy, k, ex, ey, ez, wx, wy, ec⟩ | ⟨h0, x, _, hx, k, ex, ey, ez, _, wx, ec⟩ | ⟨h0, x, y, _, hx, hy, k, ex, ey, ez, wx, wy, ec⟩ | ⟨h0, x, y, z, _, hx, hy, hz, _, k, ex, ey, ez, wx, we, ec⟩
    · have hk : S0.1 f 0 i ≤ 4 := by rw [k]; exact nI_le (b := 4) (by omega) (by decide)
      have eb := (rowOk_bc (rOk i hi) (Or.inr (Or.inr h0))).1
      have ne : ∀ q : Nat, 5 ≤ q → q < 10 → ¬ S0.1 f 0 i = nI q := fun q h1 h2 z => by
        rw [k] at z
        have := (nI_eq (by omega) (by omega)).mp z
        omega
      rw [ea, im2, yC_some, uA (ci := 3) hNd.1 (by decide), ul (ci := 3) hNd.1 (by decide) i2 is, ef, eb, im2, yC_some, uA (ci := 3) hNd.1 (by decide), ul (ci := 3) hNd.1 (by decide) i0 is, ef, if_neg (show ¬ S0.1 f 0 i = 5 from ne 5 (by decide) (by decide)), if_neg (show ¬ S0.1 f 0 i = 6 from ne 6 (by decide) (by decide)), if_neg (show ¬ S0.1 f 0 i = 7 from ne 7 (by decide) (by decide)), if_neg (show ¬ S0.1 f 0 i = 8 from ne 8 (by decide) (by decide)), if_neg (show ¬ S0.1 f 0 i = 9 from ne 9 (by decide) (by decide))]
      exact skip hk
    · have eb := (rowOk_bc (rOk i hi) (Or.inl k)).1
      rw [ea, im1 a (by omega), yC_some, uA (ci := 3) hNd.1 (by decide), ul (ci := 3) hNd.1 (by decide) i2 is, ef, eb, im2, yC_some, uA (ci := 3) hNd.1 (by decide), ul (ci := 3) hNd.1 (by decide) i0 is, ef, k, if_neg (by decide), if_neg (by decide), if_neg (by decide), if_neg (by decide), if_neg (by decide)]
      exact skip (by rw [k]; decide)
    · have eb := (rowOk_bc (rOk i hi) (Or.inr (Or.inl k))).1
      rw [ea, im1 a (by omega), yC_some, uA (ci := 3) hNd.1 (by decide), ul (ci := 3) hNd.1 (by decide) i2 is, ef, eb, im2, yC_some, uA (ci := 3) hNd.1 (by decide), ul (ci := 3) hNd.1 (by decide) i0 is, ef, k, if_neg (by decide), if_neg (by decide), if_neg (by decide), if_neg (by decide), if_neg (by decide)]
      exact skip (by rw [k]; decide)
    · obtain ⟨vx, hvx, evx, cvx, wvx⟩ := old x hx
      rw [ex, im1 x (by omega), yC_some, evx, uA (ci := 3) hNd.1 (by decide), ul (ci := 3) hNd.1 (by decide) i2 is, ef, ey, im2, yC_some, uA (ci := 3) hNd.1 (by decide), ul (ci := 3) hNd.1 (by decide) i0 is, ef, if_pos k, uA (ci := 3) hNd.1 (by decide), ul (ci := 3) hNd.1 (by decide) i3 is, ef, eg, uk (ci := 3) hw1]
      obtain ⟨v, M1, S1, em, hM⟩ := cls_mk5 (O := O) (n := n) (b := -1) hn hE x1 (by omega) hvx (by rw [wvx]; exact wx) hg (Or.inl rfl)
      rw [em, yC_some]
      rw [cvx, if_pos (by decide)] at hM
      have es : fSb S0 f st fc i = cA g (fSb S0 f st fc x) 0 := sb_5a rOk (by omega) hi hg hx k ex ey eg
      refine fin h0 S1 M1 v (by rw [es]; exact hM) ?_
      rw [wdn hM, wc_A, show cWd S0 f i = _ from wd_n9 (by rw [k]; decide), k]; rfl
    · obtain ⟨vx, hvx, evx, cvx, wvx⟩ := old x hx
      obtain ⟨vy, hvy, evy, cvy, wvy⟩ := old y hy
      rw [ex, im1 x (by omega), yC_some, evx, uA (ci := 3) hNd.1 (by decide), ul (ci := 3) hNd.1 (by decide) i2 is, ef, ey, im1 y (by omega), yC_some, evy, uA (ci := 3) hNd.1 (by decide), ul (ci := 3) hNd.1 (by decide) i0 is, ef, if_pos k, uA (ci := 3) hNd.1 (by decide), ul (ci := 3) hNd.1 (by decide) i3 is, ef, eg, uk (ci := 3) hw1]
      obtain ⟨v, M1, S1, em, hM⟩ := cls_mk5 (O := O) (n := n) (b := nI vy) hn hE x1 (by omega) hvx (by rw [wvx]; exact wx) hg (Or.inr ⟨vy, hvy, rfl, by rw [wvy]; exact wy⟩)
      rw [em, yC_some]
      rw [cvx, if_neg (nI_pos (by omega)), nI_clamp (by omega), cvy] at hM
      have es : fSb S0 f st fc i = cA g (fSb S0 f st fc x) (fSb S0 f st fc y + 1) := sb_5b rOk (by omega) hi hg hx hy k ex ey eg
      refine fin h0 S1 M1 v (by rw [es]; exact hM) ?_
      rw [wdn hM, wc_A, show cWd S0 f i = _ from wd_n9 (by rw [k]; decide), k]; rfl
    · obtain ⟨vx, hvx, evx, cvx, wvx⟩ := old x (by omega)
      obtain ⟨vy, hvy, evy, cvy, wvy⟩ := old y hy
      rw [ex, im1 x (by omega), yC_some, evx, uA (ci := 3) hNd.1 (by decide), ul (ci := 3) hNd.1 (by decide) i2 is, ef, ey, im1 y (by omega), yC_some, evy, uA (ci := 3) hNd.1 (by decide), ul (ci := 3) hNd.1 (by decide) i0 is, ef, if_neg (by rw [k]; decide), if_pos k, uk (ci := 3) hw1]
      obtain ⟨v, M1, S1, em, hM⟩ := cls_mk6 (O := O) (n := n) hn hE x1 (by omega) hvx hvy (by rw [wvx]; exact wx) (by rw [wvy]; exact wy)
      rw [em, yC_some]
      rw [cvx, cvy] at hM
      have es : fSb S0 f st fc i = mkE (fSb S0 f st fc x) (fSb S0 f st fc y) := sb_6 rOk (by omega) hi (by omega) hy k ex ey
      refine fin h0 S1 M1 v (by rw [es]; exact hM) ?_
      rw [wdn hM, wc_mkE, show cWd S0 f i = _ from wd_n9 (by rw [k]; decide), k]; rfl
    · obtain ⟨vx, hvx, evx, cvx, wvx⟩ := old x hx
      rw [ex, im1 x (by omega), yC_some, evx, uA (ci := 3) hNd.1 (by decide), ul (ci := 3) hNd.1 (by decide) i2 is, ef, ey, im2, yC_some, uA (ci := 3) hNd.1 (by decide), ul (ci := 3) hNd.1 (by decide) i0 is, ef, if_neg (by rw [k]; decide), if_neg (by rw [k]; decide), if_pos k, uk (ci := 3) hw1]
      obtain ⟨v, M1, S1, em, hM⟩ := cls_mk7 (O := O) (n := n) hn hE x1 (by omega) hvx (by rw [wvx]; exact wx)
      rw [em, yC_some]
      have wN := wc_mkN x1.2.2.2.1 hM31 hE hvx (by have := wvx; unfold cWd at this; rw [this]; exact wx)
      rw [show cd (S.1 w 0) (S.1 w 1) (S.1 w 2) (S.1 w 3) vx = _ from cvx] at wN
      rw [cvx] at hM
      have es : fSb S0 f st fc i = mkN (fSb S0 f st fc x) := sb_7 rOk (by omega) hi hx k ex
      refine fin h0 S1 M1 v (by rw [es]; exact hM) ?_
      rw [wdn hM, wN, show cWd S0 f i = _ from wd_n9 (by rw [k]; decide), k]; rfl
    · obtain ⟨vx, hvx, evx, cvx, wvx⟩ := old x (by omega)
      obtain ⟨vy, hvy, evy, cvy, wvy⟩ := old y hy
      rw [ex, im1 x (by omega), yC_some, evx, uA (ci := 3) hNd.1 (by decide), ul (ci := 3) hNd.1 (by decide) i2 is, ef, ey, im1 y (by omega), yC_some, evy, uA (ci := 3) hNd.1 (by decide), ul (ci := 3) hNd.1 (by decide) i0 is, ef, if_neg (by rw [k]; decide), if_neg (by rw [k]; decide), if_neg (by rw [k]; decide), if_pos k, uk (ci := 3) hw1]
      obtain ⟨v, M1, S1, em, hM⟩ := cls_mk8 (O := O) (n := n) hn hE x1 (by omega) hvx hvy (by rw [wvx]; exact wx) (by rw [wvy]; exact wy)
      rw [em, yC_some]
      have wB := wc_mkB (a := cCd S w vx) (b := cCd S w vy) (by rw [cd_wc x1.2.2.2.1.2.1 hM31 hE vx hvx]; have := wvx; unfold cWd at this; rw [this]; exact wx) (by rw [cd_wc x1.2.2.2.1.2.1 hM31 hE vy hvy]; have := wvy; unfold cWd at this; rw [this]; exact wy)
      rw [cvx, cvy] at hM wB
      have es : fSb S0 f st fc i = mkB (fSb S0 f st fc x) (fSb S0 f st fc y) := sb_8 rOk (by omega) hi (by omega) hy k ex ey
      refine fin h0 S1 M1 v (by rw [es]; exact hM) ?_
      rw [wdn hM, wB, show cWd S0 f i = _ from wd_n9 (by rw [k]; decide), k]; rfl
    · obtain ⟨vx, hvx, evx, cvx, wvx⟩ := old x hx
      obtain ⟨vy, hvy, evy, cvy, wvy⟩ := old y hy
      obtain ⟨vz, hvz, evz, cvz, wvz⟩ := old z hz
      rw [ex, im1 x (by omega), yC_some, evx, uA (ci := 3) hNd.1 (by decide), ul (ci := 3) hNd.1 (by decide) i2 is, ef, ey, im1 y (by omega), yC_some, evy, uA (ci := 3) hNd.1 (by decide), ul (ci := 3) hNd.1 (by decide) i0 is, ef, if_neg (by rw [k]; decide), if_neg (by rw [k]; decide), if_neg (by rw [k]; decide), if_neg (by rw [k]; decide), if_pos k, uA (ci := 3) hNd.1 (by decide), ul (ci := 3) hNd.1 (by decide) i3 is, ef, ez, im1 z (by omega), yC_some, evz, uk (ci := 3) hw1]
      have wyz : cWd S w vy = cWd S w vz := by rw [wvy, wvz]; exact we
      obtain ⟨v, M1, S1, em, hM⟩ := cls_mk9 (O := O) (n := n) hn hE x1 (by omega) hvx hvy hvz (by rw [wvx]; exact wx) wyz
      rw [em, yC_some]
      have wy1 := cd_wc x1.2.2.2.1.2.1 hM31 hE vy hvy
      have wz1 := cd_wc x1.2.2.2.1.2.1 hM31 hE vz hvz
      have wC := wc_mkC (c := cCd S w vx) (a := cCd S w vy) (b := cCd S w vz) (by rw [wy1, wz1]; exact wyz)
      rw [show wc (cCd S w vy) = cWd S w vy from wy1, wvy] at wC
      rw [cvx, cvy, cvz] at hM wC
      have es : fSb S0 f st fc i = mkC (fSb S0 f st fc x) (fSb S0 f st fc y) (fSb S0 f st fc z) := sb_9 rOk (by omega) hi hx hy hz k ex ey ez
      refine fin h0 S1 M1 v (by rw [es]; exact hM) ?_
      rw [wdn hM, wC]
      exact (wd_9 rOk (by omega) hi k ey hy).symm
end REMAKE
