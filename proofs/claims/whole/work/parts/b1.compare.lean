/-! THE TWO ANSWERS ARE THE SAME -/
/-- truths are truths -/
def gd (s : Nat → Nat) : Prop := ∀ i, i < 17 → s i ≤ 1
theorem X_on {P : Nat → Bool} {Q Q' : (Nat → Nat) → Prop} (h : ∀ s, gd s → (Q s ↔ Q' s)) {s : Nat → Nat} : X P Q s ↔ X P Q' s := by
  constructor
  · rintro ⟨a, b, d, e⟩; exact ⟨a, b, d, (h s b).mp e⟩
  · rintro ⟨a, b, d, e⟩; exact ⟨a, b, d, (h s b).mpr e⟩
theorem Lst_on {P : Nat → Bool} {Q Q' : (Nat → Nat) → Prop} (h : ∀ s, gd s → (Q s ↔ Q' s)) {s : Nat → Nat} (hl : Lst P Q s) : Lst P Q' s := ⟨(X_on h).mp hl.1, fun s' hs' => hl.2 s' ((X_on h).mpr hs')⟩
section CMP
variable {D : Nat → Prop} {E I K : Nat} {iv cl c1 c2 el : Nat → Nat} {sn eS : Nat → Bool} {y y' fet fet' dif df fx : Int32} {dw dt dw' dt' : Nat} {wit wit' dif' : Nat → Int32}
/-- the claims are those of the question -/
def SameQ (I K : Nat) (iv cl c1 c2 el : Nat → Nat) (sn : Nat → Bool) : Prop := (∀ i j, i < j → j < K → el i < el j) ∧
  ∀ s F, gd s → (∀ i, i < K → (FailsV I iv (snq K) cl (fun _ => cF) (ivl (zs s) F) i ↔ FailsV I iv sn c1 c2 (ivl (zs s) F) (el i))) ∧ ∀ e, FailsV I iv sn c1 c2 (ivl (zs s) F) e → ∃ i, i < K ∧ el i = e
theorem SameQ_QF (h : SameQ I K iv cl c1 c2 el sn) : ∀ s, gd s → (QF I iv sn c1 c2 s ↔ QF I iv (snq K) cl (fun _ => cF) s) := by
  intro s hs
  constructor
  · rintro ⟨e, F, hf⟩
    obtain ⟨i, hi, ei⟩ := (h.2 s F hs).2 e hf
    exact ⟨i, F, ((h.2 s F hs).1 i hi).mpr (by rw [ei]; exact hf)⟩
  · rintro ⟨i, F, hf⟩
    exact ⟨el i, F, ((h.2 s F hs).1 i (snq_iff.mp hf.2.1)).mp hf⟩
theorem out_cmp (hR : Outc D (PD D) E I iv sn c1 c2 eS y dw dt wit fet dif) (hW : NumOf (kW D) dw') (hT : NumOf (kT D) dt') (hK : OutK D E I K iv cl eS dif' fx y' dw' dt' wit' fet' df) (hS : SameQ I K iv cl c1 c2 el sn) :
    y' = y ∧ dw' = dw ∧ dt' = dt ∧ (y = 0 → (∀ a, a < E → wit' a = wit a) ∧ (fx = 0 → fet' = fet) ∧ (¬ D cX → fet' = fx) ∧ ∃ i, i < K ∧ df = dif' i ∧ dif = nI (el i)) := by
  obtain ⟨rW, rT, hR⟩ := hR
  have ew := NumOf_eq hW rW (fun _ => Iff.rfl)
  have et := NumOf_eq hT rT (fun _ => Iff.rfl)
  subst ew et
  have hQ := SameQ_QF hS
  rcases hR with ⟨big, rfl⟩ | ⟨sm, hR⟩
  · rcases hK with ⟨_, rfl⟩ | ⟨sm, _⟩
    · exact ⟨rfl, rfl, rfl, fun z => absurd z (by decide)⟩
    · omega
  · rcases hK with ⟨big, _⟩ | ⟨_, P, hP, hin, hK⟩
    · omega
    · have no : (∃ s', X P (QF I iv (snq K) cl (fun _ => cF)) s') ↔ ∃ s', X (PD D) (QF I iv sn c1 c2) s' := by
        rw [X_none hP hin]
        constructor
        · rintro ⟨s', hs'⟩; exact ⟨s', (X_on hQ).mpr hs'⟩
        · rintro ⟨s', hs'⟩; exact ⟨s', (X_on hQ).mp hs'⟩
      rcases hR with ⟨rfl, rn⟩ | ⟨rfl, s1, e1, l1, h16, f1, m1, w1, g1, d1⟩
      · rcases hK with ⟨rfl, _⟩ | ⟨_, s2, e2, l2, _⟩
        · exact ⟨rfl, rfl, rfl, fun z => absurd z (by decide)⟩
        · exact absurd (no.mp ⟨s2, l2.1⟩) rn
      · rcases hK with ⟨_, kn⟩ | ⟨rfl, s2, e2, l2, h2, f2, m2, w2, g2, d2⟩
        · exact absurd (no.mpr ⟨s1, l1.1⟩) kn
        · have l1' : Lst (PD D) (QF I iv (snq K) cl (fun _ => cF)) s1 := Lst_on hQ l1
          have es := Lst_same hP hin l2 l1'
          have : s2 = s1 := by
            funext i
            by_cases z : i < 33
            · exact es i z
            · have q1 : PD D i = false := by
                cases q : PD D i with
                | false => rfl
                | true => exact absurd (PD_iff.mp q).1 z
              have q2 : P i = false := by
                cases q : P i with
                | false => rfl
                | true => rw [hP i q] at q1; cases q1
              rw [l2.1.1 i q2, l1.1.1 i q1]
          subst this
          have hg : gd s2 := l2.1.2.1
          refine ⟨rfl, rfl, rfl, fun _ => ⟨fun a ha => by rw [w1 a ha, w2 a ha], fun z => ?_, fun z => ?_, e2, h2, d2, ?_⟩⟩
          · rw [g2, g1]
            by_cases q : P 16 = true
            · rw [if_pos q]
            · have q' : P 16 = false := by
                cases w : P 16 with
                | false => rfl
                | true => exact absurd w q
              rw [if_neg q, l2.1.1 16 q', z]; rfl
          · rw [g2, if_neg]
            intro q
            have := (PD_iff.mp (hP 16 q)).2
            rw [zc_X] at this
            exact z this
          · obtain ⟨F1, hf1⟩ := f1
            obtain ⟨F2, hf2⟩ := f2
            obtain ⟨j, hj, ej⟩ := (hS.2 s2 F1 hg).2 e1 hf1
            have k2 := ((hS.2 s2 F2 hg).1 e2 h2).mp hf2
            have k1 := ((hS.2 s2 F1 hg).1 j hj).mpr (by rw [ej]; exact hf1)
            rcases Nat.lt_trichotomy e2 j with z | z | z
            · have := hS.1 e2 j z hj
              exact absurd ⟨F2, k2⟩ (m1 (el e2) (by omega))
            · rw [d1, z, ej]
            · exact absurd ⟨F1, k1⟩ (m2 j z)
end CMP
/-! the codes of a store -/
def DW (S : qS) (w M c : Nat) : Prop := ∃ m, m < M ∧ cCd S w m = c
section DWS
variable {O : qOb9} {w E M I K : Nat} {S : qS} {iv cl c1 c2 el : Nat → Nat} {sn eS : Nat → Bool}
theorem DW_clo (hE : E ≤ 16) (hC : CS O w 5732 2048 S E M) : Clo (DW S w M) := by
  rintro c p ⟨m, hm, rfl⟩ hp
  obtain ⟨m', h1, _, h3⟩ := (cd_part hC.2.2.2.1.2.1 (CS_big hC).1 hE hm).mp hp
  exact ⟨m', by omega, h3⟩
theorem DW_ok (hE : E ≤ 16) (hC : CS O w 5732 2048 S E M) : ∀ c, DW S w M c → okc c := by
  rintro c ⟨m, hm, rfl⟩
  exact cd_ok hC.2.2.2.1.2.1 (CS_big hC).1 hE hm
theorem DW_01 (hE : E ≤ 16) (hC : CS O w 5732 2048 S E M) {s : Nat → Nat} (hs : gd s) {F : Nat → Nat → Nat → Nat} : ∀ c, DW S w M c → wc c = false → ivl (zs s) F c ≤ 1 := by
  refine ivl_01 (DW_clo hE hC) (DW_ok hE hC) ?_
  rintro c ⟨m, hm, rfl⟩ hk
  have hM31 := (CS_big hC).1
  have kk := (cd_kind hC.2.2.2.1.2.1 hM31 hE hm).1
  rcases hk with k2 | k4
  · unfold zs
    rw [if_neg (by omega), if_pos k2]
    exact hs 16 (by omega)
  · have k4' : S.1 w 0 m = 4 := by rw [kk, k4]; rfl
    obtain ⟨_, e, he, _, _, ec⟩ := row_4 hC.2.2.2.1.2.1 hM31 hE hm k4'
    unfold zs
    rw [if_pos k4, show cCd S w m = cU e from ec, p2_pr]
    exact hs e (by omega)
theorem SameQ_run (hE : E ≤ 16) (hC : CS O w 5732 2048 S E M) (hw : ∀ e, sn e = true → DW S w M (c1 e) ∧ DW S w M (c2 e) ∧ wc (c1 e) = wc (c2 e)) (hin : ∀ i j, i < j → j < K → el i < el j) (hcl : ∀ i, i < K → sn (el i) = true ∧ cl i = dfc (c1 (el i)) (c2 (el i))) (hall : ∀ e, sn e = true → dfc (c1 e) (c2 e) = cF ∨ ∃ i, i < K ∧ el i = e) : SameQ I K iv cl c1 c2 el sn := by
  refine ⟨hin, fun s F hs => ?_⟩
  have key : ∀ e, sn e = true → (¬ ivl (zs s) F (dfc (c1 e) (c2 e)) = 0 ↔ ¬ ivl (zs s) F (c1 e) = ivl (zs s) F (c2 e)) := fun e he => dfc_iff (DW_clo hE hC) (DW_ok hE hC) (DW_01 hE hC hs) (hw e he).1 (hw e he).2.1 (hw e he).2.2
  refine ⟨fun i hi => ?_, fun e hf => ?_⟩
  · obtain ⟨h1, h2⟩ := hcl i hi
    unfold FailsV
    rw [h2, ivl_F, key _ h1]
    exact ⟨fun ⟨a, _, b⟩ => ⟨a, h1, b⟩, fun ⟨a, _, b⟩ => ⟨a, snq_iff.mpr hi, b⟩⟩
  · rcases hall e hf.2.1 with z | z
    · exfalso
      refine (key e hf.2.1).mpr hf.2.2 ?_
      rw [z, ivl_F]
    · exact z
theorem SameQ_kept (hE : E ≤ 16) (hC : CS O w 5732 2048 S E M) {c0 : Nat} (hw : DW S w M c0) (hw' : wc c0 = false) (hK : (K = 0 ∧ mkN c0 = cF) ∨ (K = 1 ∧ cl 0 = mkN c0)) : SameQ I K iv cl (fun _ => c0) (fun _ => cT) (fun _ => 16) sn16 := by
  refine ⟨fun i j h1 h2 => by omega, fun s F hs => ?_⟩
  have v1 := DW_01 (F := F) hE hC hs c0 hw hw'
  have vN := ivl_mkN (s := zs s) (F := F) (a := c0) (fun z => DW_01 hE hC hs _ (clo7 (DW_clo hE hC) hw z) ((DW_ok hE hC c0 hw).2.2.2.1 z))
  refine ⟨fun i hi => ?_, fun e hf => ?_⟩
  · rcases hK with ⟨k0, _⟩ | ⟨k1, k2⟩
    · omega
    · have : i = 0 := by omega
      subst this
      unfold FailsV
      rw [k2, vN, ivl_F, ivl_T]
      have key : (¬ 1 - ivl (zs s) F c0 = 0) ↔ ¬ ivl (zs s) F c0 = 1 := by omega
      exact ⟨fun ⟨a, _, b⟩ => ⟨a, (sn16_iff 16).mpr rfl, key.mp b⟩, fun ⟨a, _, b⟩ => ⟨a, snq_iff.mpr hi, key.mpr b⟩⟩
  · have he := (sn16_iff e).mp hf.2.1
    rcases hK with ⟨k0, k2⟩ | ⟨k1, k2⟩
    · exfalso
      rw [k2, ivl_F] at vN
      have h3 := hf.2.2
      rw [ivl_T] at h3
      have h3' : ¬ ivl (zs s) F c0 = 1 := h3
      omega
    · exact ⟨0, by omega, he.symm⟩
end DWS
