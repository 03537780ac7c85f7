section SBC
variable {κ α β γ κ' α' β' γ' : Nat → Int32} {E N : Nat} {st st' : Nat → Nat} {fc : Nat}
theorem sb_congr (hS : ∀ n, n < N → rowOk κ α β γ E n) (hN : N < 2 ^ 31) (hE : E ≤ 16) (ag : ∀ m, m < N → κ' m = κ m ∧ α' m = α m ∧ β' m = β m ∧ γ' m = γ m) (hst : ∀ e, e < E → st' e = st e) : ∀ n, n < N → sb κ' α' β' γ' st' fc n = sb κ α β γ st fc n := by
  have hS' : ∀ n, n < N → rowOk κ' α' β' γ' E n := fun n hn => rowOk_congr (Nat.le_refl E) (by omega) (fun m hm => hS m (by omega)) (fun m hm => ag m (by omega)) (hS n hn)
  intro n
  induction n using Nat.strongRecOn with
  | ind n ih =>
    intro hn
    obtain ⟨g1, g2, g3, g4⟩ := ag n hn
    rcases cd_row hS hN hE hn with ⟨h0, k, -, ec⟩ | ⟨h0, a, ha, k, ea, ec⟩ | ⟨h0, a, ha, k, ea, ec⟩ | ⟨h0, x, g, hx, hg, k, ex, ey, eg, wx, ec⟩ | ⟨h0, x, y, g, hx, hy, hg, k, ex, ey, eg, wx, wy, ec⟩ | ⟨h0, x, y, hx, hy, k, ex, ey, ez, wx, wy, ec⟩ | ⟨h0, x, _, hx, k, ex, ey, ez, _, wx, ec⟩ | ⟨h0, x, y, _, hx, hy, k, ex, ey, ez, wx, wy, ec⟩ | ⟨h0, x, y, z, _, hx, hy, hz, _, k, ex, ey, ez, wx, we, ec⟩
    · by_cases n2 : n = 2
      · subst n2
        rw [sb_2 (κ := κ) (by rw [k]; rfl), sb_2 (κ := κ') (by rw [g1, k]; rfl)]
      · rw [sb_c (by omega) k, sb_c (by omega) (g1.trans k)]
    · rw [sb_e (by omega) (Or.inl k) ea, sb_e (by omega) (Or.inl (g1.trans k)) (g2.trans ea), hst a ha]
    · rw [sb_e (by omega) (Or.inr k) ea, sb_e (by omega) (Or.inr (g1.trans k)) (g2.trans ea), hst a ha]
    · rw [sb_5a hS hN hn hg hx k ex ey eg, sb_5a hS' hN hn hg hx (g1.trans k) (g2.trans ex) (g3.trans ey) (g4.trans eg), ih x hx (by omega)]
    · rw [sb_5b hS hN hn hg hx hy k ex ey eg, sb_5b hS' hN hn hg hx hy (g1.trans k) (g2.trans ex) (g3.trans ey) (g4.trans eg), ih x hx (by omega), ih y hy (by omega)]
    · rw [sb_6 hS hN hn (by omega) hy k ex ey, sb_6 hS' hN hn (by omega) hy (g1.trans k) (g2.trans ex) (g3.trans ey), ih x (by omega) (by omega), ih y hy (by omega)]
    · rw [sb_7 hS hN hn hx k ex, sb_7 hS' hN hn hx (g1.trans k) (g2.trans ex), ih x hx (by omega)]
    · rw [sb_8 hS hN hn (by omega) hy k ex ey, sb_8 hS' hN hn (by omega) hy (g1.trans k) (g2.trans ex) (g3.trans ey), ih x (by omega) (by omega), ih y hy (by omega)]
    · rw [sb_9 hS hN hn hx hy hz k ex ey ez, sb_9 hS' hN hn hx hy hz (g1.trans k) (g2.trans ex) (g3.trans ey) (g4.trans ez), ih x hx (by omega), ih y hy (by omega), ih z hz (by omega)]
end SBC
/-! THE REFERENCE'S STEPS -/
/-- between steps: S0 is the state when the question began -/
def RunI (r E N : Nat) (S0 S : qS) (A : Nat) : Prop := Ext r S E A ∧ (N ≤ A ∧ ∀ m, N ≤ m → m < A → ¬ S.1 r 3 m ≤ 4) ∧ rOnly r S0 S ∧ ∀ j k, j ≠ 7 → j ≠ 8 → j ≠ 2 → j ≠ 17 → j ≠ 18 → ¬ (3 ≤ j ∧ j ≤ 6 ∧ N ≤ k) → S.1 r j k = S0.1 r j k
/-- what a step makes of a state -/
def stp (S0 : qS) (r : Nat) (fc : Nat) (st : Nat → Nat) (e : Nat) : Nat := rSb S0 r st fc (tN (S0.1 r 12 e))
/-- each element's next node is of its sort -/
def NxOk (r E N : Nat) (S : qS) (eS : Nat → Bool) : Prop := ∀ e, e < E → ∃ m, m < N ∧ S.1 r 12 e = nI m ∧ wd (S.1 r 3) (S.1 r 5) m = eS e
section STEP
variable {O : qOb9} {r n E N : Nat} {S0 : qS} {eS : Nat → Bool}
theorem RunI_rows {S : qS} {A : Nat} (hR : RunI r E N S0 S A) : ∀ m, m < N → S.1 r 3 m = S0.1 r 3 m ∧ S.1 r 4 m = S0.1 r 4 m ∧ S.1 r 5 m = S0.1 r 5 m ∧ S.1 r 6 m = S0.1 r 6 m := fun m hm =>
  ⟨hR.2.2.2 3 m (by decide) (by decide) (by decide) (by decide) (by decide) (by omega), hR.2.2.2 4 m (by decide) (by decide) (by decide) (by decide) (by decide) (by omega), hR.2.2.2 5 m (by decide) (by decide) (by decide) (by decide) (by decide) (by omega), hR.2.2.2 6 m (by decide) (by decide) (by decide) (by decide) (by decide) (by omega)⟩
/-- putIn between steps: what each face node was made -/
theorem ref_putIn (h : Ref O r) (hn : 7000 ≤ n) (hE : E ≤ 16) (hN3 : N ≤ 300) (h1 : S0.1 r 1 0 = nI N) (hS0 : ∀ m, m < N → rowOk (S0.1 r 3) (S0.1 r 4) (S0.1 r 5) (S0.1 r 6) E m) (hel : ElS r N S0 eS) {S : qS} {A : Nat} (hR : RunI r E N S0 S A) (hroom : A + N ≤ 6400) {st : Nat → Nat} (hst : StOk r E A S st eS) {w : Nat} (hw0 : w < 3) :
    ∃ S' A', G_XModel_putIn O n r (nI w) S = some ((), S') ∧ RunI r E N S0 S' A' ∧ A ≤ A' ∧ A' ≤ A + N ∧ S'.1 r 18 = S.1 r 18 ∧ (∀ m, m < A → rCd S' r m = rCd S r m) ∧ (∀ m, m < A → wd (S'.1 r 3) (S'.1 r 5) m = wd (S.1 r 3) (S.1 r 5) m) ∧
      ∀ m, m < N → ∃ v, v < A' ∧ S'.1 r 17 m = nI v ∧ rCd S' r v = rSb S0 r st (pr w 0) m ∧ wd (S'.1 r 3) (S'.1 r 5) v = wd (S0.1 r 3) (S0.1 r 5) m := by
  obtain ⟨x1, ⟨x2, x0⟩, x3, x4⟩ := hR
  have rows := RunI_rows ⟨x1, ⟨x2, x0⟩, x3, x4⟩
  have h3 := x1.2.2.1.1
  have hA := x1.2.1
  have c0 := cd_0 x1.2.2.1 (by omega) hE
  have hfc : rCd S r w = pr w 0 := by
    rcases (show w = 0 ∨ w = 1 ∨ w = 2 by omega) with q | q | q <;> subst q
    · exact c0.1
    · exact c0.2.1
    · exact c0.2.2
  have hwd : wd (S.1 r 3) (S.1 r 5) w = false := by
    rw [← cd_wc x1.2.2.1.2.1 (by omega) hE w (by omega), show cd _ _ _ _ w = pr w 0 from hfc, wc_pr (by omega), decide_eq_false (by omega), decide_eq_false (by omega)]; rfl
  have e1 : S.1 r 1 0 = nI N := by rw [x4 1 0 (by decide) (by decide) (by decide) (by decide) (by decide) (by omega)]; exact h1
  have hel' : ElS r N S eS := fun m e hm ha he => by
    obtain ⟨g1, g2, g3, g4⟩ := rows m hm
    rw [g1]
    exact hel m e hm (g2.symm.trans ha) he
  have P0 : PutI r E A S st (pr w 0) S A 0 := ⟨⟨x1, fun m h1 h2 => by omega⟩, Nat.le_refl A, Nat.le_refl _, rOnly.refl, fun _ _ _ _ _ _ _ => rfl, fun m hm => absurd hm (Nat.not_lt_zero m)⟩
  obtain ⟨S', A', e, hP⟩ := ref_putIn_2 (O := O) (n := n) h hn hE x1 x2 e1 hN3 hroom hst hel' (w := w) (by omega) hwd hfc N 0 n S A (by omega) (by omega) P0
  obtain ⟨⟨y1, y0⟩, y2, y3, y4, y5, y6⟩ := hP
  refine ⟨S', A', e, ⟨y1, ⟨by omega, fun m h1 h2 => by
    by_cases q : m < A
    · rw [y5 3 m (by decide) (by decide) (by decide) (by decide) (by omega)]; exact x0 m h1 q
    · exact y0 m (by omega) h2⟩, x3.trans y4, fun j k h7 h8 h2 h17 h18 hne => ?_⟩, y2, y3, ?_, fun m hm => ?_, fun m hm => ?_, fun m hm => ?_⟩
  · rw [y5 j k h7 h8 h2 h17 (by omega), x4 j k h7 h8 h2 h17 h18 hne]
  · funext k
    exact y5 18 k (by decide) (by decide) (by decide) (by decide) (by omega)
  · exact cd_congr (N := A) x1.2.2.1.2.1 (by omega) (fun q hq => ⟨y5 3 q (by decide) (by decide) (by decide) (by decide) (by omega), y5 4 q (by decide) (by decide) (by decide) (by decide) (by omega), y5 5 q (by decide) (by decide) (by decide) (by decide) (by omega), y5 6 q (by decide) (by decide) (by decide) (by decide) (by omega)⟩) m hm
  · exact wd_congr (N := A) x1.2.2.1.2.1 (by omega) (fun q hq => y5 3 q (by decide) (by decide) (by decide) (by decide) (by omega)) (fun q hq => y5 5 q (by decide) (by decide) (by decide) (by decide) (by omega)) m hm
  · obtain ⟨v, v1, v2, v3, v4⟩ := y6 m hm
    refine ⟨v, v1, v2, ?_, ?_⟩
    · rw [v3]
      exact sb_congr hS0 (by omega) hE rows (fun _ _ => rfl) m hm
    · rw [v4]
      exact wd_congr hS0 (by omega) (fun q hq => (rows q hq).1) (fun q hq => (rows q hq).2.2.1) m hm
theorem RunI_18 {S : qS} {A : Nat} {g : Nat → Int32} (hR : RunI r E N S0 S A) : RunI r E N S0 (setF S r 18 g) A := by
  obtain ⟨x1, x2, x3, x4⟩ := hR
  refine ⟨?_, ⟨x2.1, fun m h1 h2 => by rw [setF_ne (by decide)]; exact x2.2 m h1 h2⟩, x3.trans setF_only, fun j k h7 h8 h2 h17 h18 hne => ?_⟩
  · obtain ⟨y1, y2, y3, y4⟩ := x1
    have hr : ∀ i', rowH ((setF S r 18 g).1 r) i' = rowH (S.1 r) i' := fun i' => by
      unfold rowH
      rw [setF_ne (by decide), setF_ne (by decide), setF_ne (by decide), setF_ne (by decide)]
    refine ⟨?_, y2, ?_, fun hh hb => ?_, fun i' hi => ?_⟩
    · rw [setF_ne (by decide)]; exact y1
    · rw [setF_ne (by decide), setF_ne (by decide), setF_ne (by decide), setF_ne (by decide)]; exact y3
    · rw [setF_ne (by decide), y4.1 hh hb]
      exact (rTop_congr fun i' _ => hr i').symm
    · rw [setF_ne (by decide), y4.2 i' hi, hr]
      exact (rTop_congr fun i' _ => hr i').symm
  · rw [setF_ne h18]; exact x4 j k h7 h8 h2 h17 h18 hne
/-- the reference's step -/
theorem ref_step (h : Ref O r) (hn : 7000 ≤ n) (hE : E ≤ 16) (hN3 : N ≤ 300) (h1 : S0.1 r 1 0 = nI N) (h9 : S0.1 r 9 0 = nI E) (hS0 : ∀ m, m < N → rowOk (S0.1 r 3) (S0.1 r 4) (S0.1 r 5) (S0.1 r 6) E m) (hel : ElS r N S0 eS) (hnx : NxOk r E N S0 eS) {S : qS} {A : Nat} (hR : RunI r E N S0 S A) (hroom : A + N ≤ 6400) {st : Nat → Nat} (hst : StOk r E A S st eS) {w : Nat} (hw0 : w < 3) :
    ∃ S' A', G_XModel_step O n r (nI w) S = some ((), S') ∧ RunI r E N S0 S' A' ∧ A ≤ A' ∧ A' ≤ A + N ∧ StOk r E A' S' (stp S0 r (pr w 0) st) eS ∧ (∀ m, m < A → rCd S' r m = rCd S r m) := by
  obtain ⟨S1, A1, e1, r1, a1, a1', t1, c1, w1, m1⟩ := ref_putIn (O := O) (n := n) h hn hE hN3 h1 hS0 hel hR hroom hst hw0
  have n9 : S1.1 r 9 0 = nI E := by rw [r1.2.2.2 9 0 (by decide) (by decide) (by decide) (by decide) (by decide) (by omega)]; exact h9
  have n12 : ∀ e, S1.1 r 12 e = S0.1 r 12 e := fun e => r1.2.2.2 12 e (by decide) (by decide) (by decide) (by decide) (by decide) (by omega)
  have q := ref_step_7 (O := O) (n := n) (S := S1) h n9 hE (fun e he => by
    obtain ⟨m, hm, em, _⟩ := hnx e he
    exact ⟨m, by omega, by rw [n12, em]⟩) E 0 n (S1.1 r 18) (by omega) (by omega)
  rw [setF_self, nI_0] at q
  refine ⟨setF S1 r 18 (fun i => if 0 ≤ i ∧ i < E then S1.1 r 17 (S1.1 r 12 i).toNatClampNeg else S1.1 r 18 i), A1, ?_, RunI_18 r1, a1, a1', fun e he => ?_, fun m hm => ?_⟩
  · unfold G_XModel_step
    rw [rk h, e1, yV_some]
    exact q
  · obtain ⟨m, hm, em, wm⟩ := hnx e he
    obtain ⟨v, v1, v2, v3, v4⟩ := m1 m hm
    have te : tN (S0.1 r 12 e) = m := by rw [em]; exact nI_clamp (by omega)
    refine ⟨v, v1, ?_, ?_, ?_⟩
    · rw [setF_same]
      show (if 0 ≤ e ∧ e < E then S1.1 r 17 (S1.1 r 12 e).toNatClampNeg else S1.1 r 18 e) = nI v
      rw [if_pos ⟨Nat.zero_le e, he⟩, n12, show (S0.1 r 12 e).toNatClampNeg = m from te]
      exact v2
    · show cd _ _ _ _ v = _
      rw [setF_ne (by decide), setF_ne (by decide), setF_ne (by decide), setF_ne (by decide)]
      unfold stp
      rw [te]
      exact v3
    · rw [setF_ne (by decide), setF_ne (by decide), v4]
      exact wm
  · show cd _ _ _ _ m = _
    rw [setF_ne (by decide), setF_ne (by decide), setF_ne (by decide), setF_ne (by decide)]
    exact c1 m hm
end STEP
