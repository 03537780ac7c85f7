/-! WHAT IS MADE, BY CODE -/
theorem cE_comm (a b : Nat) : cE a b = cE b a := by
  show pr 6 (pr (min a b) (max a b)) = pr 6 (pr (min b a) (max b a))
  rw [Nat.min_comm, Nat.max_comm]
theorem cB_comm (a b : Nat) : cB a b = cB b a := by
  show pr 8 (pr (min a b) (max a b)) = pr 8 (pr (min b a) (max b a))
  rw [Nat.min_comm, Nat.max_comm]
theorem mkE_same (a : Nat) : mkE a a = cT := if_pos rfl
theorem mkN_T : mkN cT = cF := if_pos rfl
theorem pr_ne {a b a' b' : Nat} (h : ¬ a = a') : ¬ pr a b = pr a' b' := fun q => h (pr_inj q).1
theorem mkN_F : mkN cF = cT := by unfold mkN; rw [if_neg (pr_ne (by decide)), if_pos rfl]
theorem mkB_F1 (b : Nat) : mkB cF b = cF := if_pos rfl
theorem mkB_F2 (a : Nat) : mkB a cF = cF := by
  unfold mkB
  by_cases h : a = cF
  · rw [if_pos h]
  · rw [if_neg h, if_pos rfl]
theorem mkB_T1 (b : Nat) : mkB cT b = b := by
  unfold mkB
  rw [if_neg (pr_ne (by decide))]
  by_cases h : b = cF
  · rw [if_pos h, h]
  · rw [if_neg h, if_pos rfl]
theorem mkB_T2 (a : Nat) : mkB a cT = a := by
  unfold mkB
  by_cases h : a = cF
  · rw [if_pos h, h]
  · rw [if_neg h, if_neg (pr_ne (by decide))]
    by_cases h' : a = cT
    · rw [if_pos h', h']
    · rw [if_neg h', if_pos rfl]
theorem mkB_same (a : Nat) : mkB a a = a := by
  unfold mkB
  by_cases h : a = cF
  · rw [if_pos h, h]
  · rw [if_neg h, if_neg h]
    by_cases h' : a = cT
    · rw [if_pos h']
    · rw [if_neg h', if_neg h', if_pos rfl]
theorem mkC_T (a b : Nat) : mkC cT a b = a := if_pos rfl
theorem mkC_F (a b : Nat) : mkC cF a b = b := by unfold mkC; rw [if_neg (pr_ne (by decide)), if_pos rfl]
theorem mkC_same (c a : Nat) : mkC c a a = a := by
  unfold mkC
  by_cases h : c = cT
  · rw [if_pos h]
  · rw [if_neg h]
    by_cases h' : c = cF
    · rw [if_pos h']
    · rw [if_neg h', if_pos rfl]
section MK
variable {κ α β γ : Nat → Int32} {E N : Nat}
theorem cd_0 (hS : Store κ α β γ E N) (hN : N < 2 ^ 31) (hE : E ≤ 16) : cd κ α β γ 0 = cF ∧ cd κ α β γ 1 = cT ∧ cd κ α β γ 2 = cX := by
  have h3 := hS.1
  refine ⟨?_, ?_, ?_⟩
  · rcases cd_row hS.2.1 hN hE (show 0 < N by omega) with ⟨_, _, _, e⟩ | ⟨h, _⟩ | ⟨h, _⟩ | ⟨h, _⟩ | ⟨h, _⟩ | ⟨h, _⟩ | ⟨h, _⟩ | ⟨h, _⟩ | ⟨h, _⟩
    · exact e
    all_goals omega
  · rcases cd_row hS.2.1 hN hE (show 1 < N by omega) with ⟨_, _, _, e⟩ | ⟨h, _⟩ | ⟨h, _⟩ | ⟨h, _⟩ | ⟨h, _⟩ | ⟨h, _⟩ | ⟨h, _⟩ | ⟨h, _⟩ | ⟨h, _⟩
    · exact e
    all_goals omega
  · rcases cd_row hS.2.1 hN hE (show 2 < N by omega) with ⟨_, _, _, e⟩ | ⟨h, _⟩ | ⟨h, _⟩ | ⟨h, _⟩ | ⟨h, _⟩ | ⟨h, _⟩ | ⟨h, _⟩ | ⟨h, _⟩ | ⟨h, _⟩
    · exact e
    all_goals omega
theorem cd_F (hS : Store κ α β γ E N) (hN : N < 2 ^ 31) (hE : E ≤ 16) {x : Nat} (hx : x < N) : cd κ α β γ x = cF ↔ x = 0 := by
  have h3 := hS.1
  rw [← (cd_0 hS hN hE).1]
  exact ⟨fun q => cd_inj hS hN hE x 0 hx (by omega) q, fun q => by rw [q]⟩
theorem cd_T (hS : Store κ α β γ E N) (hN : N < 2 ^ 31) (hE : E ≤ 16) {x : Nat} (hx : x < N) : cd κ α β γ x = cT ↔ x = 1 := by
  have h3 := hS.1
  rw [← (cd_0 hS hN hE).2.1]
  exact ⟨fun q => cd_inj hS hN hE x 1 hx (by omega) q, fun q => by rw [q]⟩
theorem mkE_row (hS : Store κ α β γ E N) (hN : N < 2 ^ 31) (hE : E ≤ 16) {x y v : Nat} (hx : x < N) (hy : y < N) (hv : v < N) (ne : ¬ x = y) (k : κ v = 6) (a : α v = nI (min x y)) (b : β v = nI (max x y)) : cd κ α β γ v = mkE (cd κ α β γ x) (cd κ α β γ y) := by
  obtain ⟨_, x', y', hx', hy', _, ea, eb, _, _, _, e⟩ := row_6 hS.2.1 hN hE hv k
  have q1 := (nI_eq (by omega) (by omega)).mp (a.symm.trans ea)
  have q2 := (nI_eq (by omega) (by omega)).mp (b.symm.trans eb)
  unfold mkE
  rw [if_neg (fun q => ne (cd_inj hS hN hE x y hx hy q)), e, ← q1, ← q2]
  rcases Nat.le_total x y with q | q
  · rw [Nat.min_eq_left q, Nat.max_eq_right q]
  · rw [Nat.min_eq_right q, Nat.max_eq_left q, cE_comm]
theorem mkN_part (hS : Store κ α β γ E N) (hN : N < 2 ^ 31) (hE : E ≤ 16) {x v : Nat} (hx : x < N) (k : κ x = 7) (a : α x = nI v) (hv : v < 2 ^ 31) : mkN (cd κ α β γ x) = cd κ α β γ v := by
  obtain ⟨_, x', _, hx', _, ea, _, _, _, _, e⟩ := row_7 hS.2.1 hN hE hx k
  have q1 := (nI_eq (by omega) (by omega)).mp (a.symm.trans ea)
  unfold mkN
  rw [e, if_neg (pr_ne (by decide)), if_neg (pr_ne (by decide)), p1_pr, if_pos rfl, p2_pr, q1]
theorem mkN_row (hS : Store κ α β γ E N) (hN : N < 2 ^ 31) (hE : E ≤ 16) {x v : Nat} (hx : x < N) (hv : v < N) (h2 : 2 ≤ x) (n7 : ¬ κ x = 7) (k : κ v = 7) (a : α v = nI x) : cd κ α β γ v = mkN (cd κ α β γ x) := by
  obtain ⟨_, x', _, hx', _, ea, _, _, _, _, e⟩ := row_7 hS.2.1 hN hE hv k
  have q1 := (nI_eq (by omega) (by omega)).mp (a.symm.trans ea)
  unfold mkN
  have k7 : ¬ p1 (cd κ α β γ x) = 7 := fun q => n7 (by rw [(cd_kind hS.2.1 hN hE hx).1, q]; rfl)
  rw [if_neg (fun q => by have := (cd_T hS hN hE hx).mp q; omega), if_neg (fun q => by have := (cd_F hS hN hE hx).mp q; omega), if_neg k7, e, q1]
theorem mkB_row (hS : Store κ α β γ E N) (hN : N < 2 ^ 31) (hE : E ≤ 16) {x y v : Nat} (hx : x < N) (hy : y < N) (hv : v < N) (ne : ¬ x = y) (x2 : 2 ≤ x) (y2 : 2 ≤ y) (k : κ v = 8) (a : α v = nI (min x y)) (b : β v = nI (max x y)) : cd κ α β γ v = mkB (cd κ α β γ x) (cd κ α β γ y) := by
  obtain ⟨_, x', y', _, hx', hy', _, ea, eb, _, _, _, e⟩ := row_8 hS.2.1 hN hE hv k
  have q1 := (nI_eq (by omega) (by omega)).mp (a.symm.trans ea)
  have q2 := (nI_eq (by omega) (by omega)).mp (b.symm.trans eb)
  unfold mkB
  rw [if_neg (fun q => by have := (cd_F hS hN hE hx).mp q; omega), if_neg (fun q => by have := (cd_F hS hN hE hy).mp q; omega), if_neg (fun q => by have := (cd_T hS hN hE hx).mp q; omega), if_neg (fun q => by have := (cd_T hS hN hE hy).mp q; omega), if_neg (fun q => ne (cd_inj hS hN hE x y hx hy q)), e, ← q1, ← q2]
  rcases Nat.le_total x y with q | q
  · rw [Nat.min_eq_left q, Nat.max_eq_right q]
  · rw [Nat.min_eq_right q, Nat.max_eq_left q, cB_comm]
theorem mkC_row (hS : Store κ α β γ E N) (hN : N < 2 ^ 31) (hE : E ≤ 16) {x y z v : Nat} (hx : x < N) (hy : y < N) (hz : z < N) (hv : v < N) (ne : ¬ y = z) (x2 : 2 ≤ x) (k : κ v = 9) (a : α v = nI x) (b : β v = nI y) (c : γ v = nI z) : cd κ α β γ v = mkC (cd κ α β γ x) (cd κ α β γ y) (cd κ α β γ z) := by
  obtain ⟨_, x', y', z', _, hx', hy', hz', _, _, ea, eb, ec, _, _, e⟩ := row_9 hS.2.1 hN hE hv k
  have q1 := (nI_eq (by omega) (by omega)).mp (a.symm.trans ea)
  have q2 := (nI_eq (by omega) (by omega)).mp (b.symm.trans eb)
  have q3 := (nI_eq (by omega) (by omega)).mp (c.symm.trans ec)
  unfold mkC
  rw [if_neg (fun q => by have := (cd_T hS hN hE hx).mp q; omega), if_neg (fun q => by have := (cd_F hS hN hE hx).mp q; omega), if_neg (fun q => ne (cd_inj hS hN hE y z hy hz q)), e, q1, q2, q3]
theorem mkA_row1 (hS : Store κ α β γ E N) (hN : N < 2 ^ 31) (hE : E ≤ 16) {x v : Nat} (hx : x < N) (hv : v < N) {g : Nat} (hg : g < 8) (k : κ v = 5) (a : α v = nI x) (b : β v = -1) (c : γ v = nI g) : cd κ α β γ v = cA g (cd κ α β γ x) 0 := by
  rcases row_5 hS.2.1 hN hE hv k with ⟨_, x', g', hx', hg', _, ea, eb, ec, _, e⟩ | ⟨_, x', y', g', hx', hy', _, _, ea, eb, ec, _, _, e⟩
  · have q1 := (nI_eq (by omega) (by omega)).mp (a.symm.trans ea)
    have q3 := (nI_eq (by omega) (by omega)).mp (c.symm.trans ec)
    rw [e, q1, q3]
  · rw [b] at eb
    have h := nI_pos (n := y') (by omega)
    rw [← eb] at h
    exact absurd (by decide) h
theorem mkA_row2 (hS : Store κ α β γ E N) (hN : N < 2 ^ 31) (hE : E ≤ 16) {x y v : Nat} (hx : x < N) (hy : y < N) (hv : v < N) {g : Nat} (hg : g < 8) (k : κ v = 5) (a : α v = nI x) (b : β v = nI y) (c : γ v = nI g) : cd κ α β γ v = cA g (cd κ α β γ x) (cd κ α β γ y + 1) := by
  rcases row_5 hS.2.1 hN hE hv k with ⟨_, x', g', hx', hg', _, ea, eb, ec, _, e⟩ | ⟨_, x', y', g', hx', hy', _, _, ea, eb, ec, _, _, e⟩
  · rw [b] at eb
    have h := nI_pos (n := y) (by omega)
    rw [eb] at h
    exact absurd (by decide) h
  · have q1 := (nI_eq (by omega) (by omega)).mp (a.symm.trans ea)
    have q2 := (nI_eq (by omega) (by omega)).mp (b.symm.trans eb)
    have q3 := (nI_eq (by omega) (by omega)).mp (c.symm.trans ec)
    rw [e, q1, q2, q3]
end MK
/-! WHAT A STEP MAKES of a face's node: st of elements, fc of FETCH -/
def sbF (κ α β γ : Nat → Int32) (st : Nat → Nat) (fc : Nat) : Nat → Nat → Nat
  | 0, _ => 0
  | f + 1, n => if κ n = 5 then cA (tN (γ n)) (sbF κ α β γ st fc f (tN (α n))) (if β n < 0 then 0 else sbF κ α β γ st fc f (tN (β n)) + 1)
    else if κ n = 6 then mkE (sbF κ α β γ st fc f (tN (α n))) (sbF κ α β γ st fc f (tN (β n)))
    else if κ n = 7 then mkN (sbF κ α β γ st fc f (tN (α n)))
    else if κ n = 8 then mkB (sbF κ α β γ st fc f (tN (α n))) (sbF κ α β γ st fc f (tN (β n)))
    else if κ n = 9 then mkC (sbF κ α β γ st fc f (tN (α n))) (sbF κ α β γ st fc f (tN (β n))) (sbF κ α β γ st fc f (tN (γ n)))
    else if κ n = 2 then fc
    else if κ n = 3 then st (tN (α n))
    else if κ n = 4 then st (tN (α n))
    else pr (tN (κ n)) 0
def sb (κ α β γ : Nat → Int32) (st : Nat → Nat) (fc n : Nat) : Nat := sbF κ α β γ st fc (n + 1) n
section SB
variable {κ α β γ : Nat → Int32} {E N : Nat} {st : Nat → Nat} {fc : Nat}
theorem sbF_any (hS : ∀ n, n < N → rowOk κ α β γ E n) (hN : N < 2 ^ 31) : ∀ n, n < N → ∀ f f', n < f → n < f' → sbF κ α β γ st fc f n = sbF κ α β γ st fc f' n := by
  intro n
  induction n using Nat.strongRecOn with
  | ind n ih =>
    intro hn f f' hf hf'
    obtain ⟨f, rfl⟩ : ∃ q, f = q + 1 := ⟨f - 1, by omega⟩
    obtain ⟨f', rfl⟩ : ∃ q, f' = q + 1 := ⟨f' - 1, by omega⟩
    have key : ∀ q, q < n → sbF κ α β γ st fc f (tN (nI q)) = sbF κ α β γ st fc f' (tN (nI q)) := by
      intro q hq
      show sbF κ α β γ st fc f (nI q).toNatClampNeg = sbF κ α β γ st fc f' (nI q).toNatClampNeg
      rw [nI_clamp (by omega)]
      exact ih q hq (by omega) f f' (by omega) (by omega)
    rw [sbF, sbF]
    rcases hS n hn with ⟨z0, z1, z2, -⟩ | ⟨z0, z | z | z | z | z | z⟩
    · have e : ∀ k : Nat, 5 ≤ k → k < 10 → ¬ κ n = nI k := fun k h1 h2 q => by
        rw [z1] at q
        have := (nI_eq (by omega) (by omega)).mp q
        omega
      have e5 : ¬ κ n = 5 := e 5 (by decide) (by decide)
      have e6 : ¬ κ n = 6 := e 6 (by decide) (by decide)
      have e7 : ¬ κ n = 7 := e 7 (by decide) (by decide)
      have e8 : ¬ κ n = 8 := e 8 (by decide) (by decide)
      have e9 : ¬ κ n = 9 := e 9 (by decide) (by decide)
      simp only [if_neg e5, if_neg e6, if_neg e7, if_neg e8, if_neg e9]
    · rcases z.1 with q | q <;> simp (decide := true) only [if_true, if_false, q]
    · obtain ⟨k, ⟨x, hx, ex, -⟩, hb, -⟩ := z
      simp only [k, ex, if_true]
      rw [key x hx]
      rcases hb with hb | ⟨y, hy, ey, -⟩
      · rw [hb, if_pos (show (-1 : Int32) < 0 by decide), if_pos (show (-1 : Int32) < 0 by decide)]
      · rw [ey, key y hy]
    · obtain ⟨k, ⟨x, y, hx, hy, ex, ey, -⟩, -⟩ := z
      simp (decide := true) only [if_true, if_false, k, ex, ey, key x (show x < n by omega), key y hy]
    · obtain ⟨k, ⟨x, -, hx, ex, -⟩, -⟩ := z
      simp (decide := true) only [if_true, if_false, k, ex, key x hx]
    · obtain ⟨k, ⟨x, y, -, hx, hy, ex, ey, -⟩, -⟩ := z
      simp (decide := true) only [if_true, if_false, k, ex, ey, key x (show x < n by omega), key y hy]
    · obtain ⟨k, x, y, z, -, hx, hy, hz, -, ex, ey, ez, -⟩ := z
      simp (decide := true) only [if_true, if_false, k, ex, ey, ez, key x hx, key y hy, key z hz]
theorem sub_at (hS : ∀ n, n < N → rowOk κ α β γ E n) (hN : N < 2 ^ 31) {n : Nat} (hn : n < N) (q : Nat) (hq : q < n) : sbF κ α β γ st fc n (tN (nI q)) = sb κ α β γ st fc q := by
  show sbF κ α β γ st fc n (nI q).toNatClampNeg = sbF κ α β γ st fc (q + 1) q
  rw [nI_clamp (by omega)]
  exact sbF_any hS hN q (by omega) n (q + 1) hq (by omega)
theorem sb_c {n : Nat} (hn : n < 2) (k : κ n = nI n) : sb κ α β γ st fc n = pr n 0 := by
  have st' : sb κ α β γ st fc n = sbF κ α β γ st fc (n + 1) n := rfl
  rw [sbF] at st'
  rcases (show n = 0 ∨ n = 1 by omega) with q | q <;> subst q <;> simp (decide := true) only [if_true, if_false, k] at st' <;> exact st'
theorem sb_2 (k : κ 2 = 2) : sb κ α β γ st fc 2 = fc := by
  have st' : sb κ α β γ st fc 2 = sbF κ α β γ st fc (2 + 1) 2 := rfl
  rw [sbF] at st'
  simp (decide := true) only [if_true, if_false, k] at st'
  exact st'
theorem sb_e {n : Nat} {e : Nat} (he : e < 16) (k : κ n = 3 ∨ κ n = 4) (a : α n = nI e) : sb κ α β γ st fc n = st e := by
  have te : tN (nI e) = e := nI_clamp (by omega)
  have st' : sb κ α β γ st fc n = sbF κ α β γ st fc (n + 1) n := rfl
  rw [sbF] at st'
  rcases k with k | k <;> simp (decide := true) only [if_true, if_false, k, a, te] at st' <;> exact st'
theorem sb_5a (hS : ∀ n, n < N → rowOk κ α β γ E n) (hN : N < 2 ^ 31) {n x : Nat} (hn : n < N) {g : Nat} (hg : g < 8) (hx : x < n) (k : κ n = 5) (a : α n = nI x) (b : β n = -1) (c : γ n = nI g) : sb κ α β γ st fc n = cA g (sb κ α β γ st fc x) 0 := by
  have tg : tN (nI g) = g := nI_clamp (by omega)
  have st' : sb κ α β γ st fc n = sbF κ α β γ st fc (n + 1) n := rfl
  rw [sbF] at st'
  simp (decide := true) only [if_true, if_false, k, a, b, c, tg, sub_at hS hN hn x hx] at st'
  exact st'
theorem sb_5b (hS : ∀ n, n < N → rowOk κ α β γ E n) (hN : N < 2 ^ 31) {n x y : Nat} (hn : n < N) {g : Nat} (hg : g < 8) (hx : x < n) (hy : y < n) (k : κ n = 5) (a : α n = nI x) (b : β n = nI y) (c : γ n = nI g) : sb κ α β γ st fc n = cA g (sb κ α β γ st fc x) (sb κ α β γ st fc y + 1) := by
  have tg : tN (nI g) = g := nI_clamp (by omega)
  have st' : sb κ α β γ st fc n = sbF κ α β γ st fc (n + 1) n := rfl
  rw [sbF] at st'
  simp (decide := true) only [if_true, if_false, k, a, b, c, tg, sub_at hS hN hn x hx, sub_at hS hN hn y hy, nI_pos (show y < 2 ^ 31 by omega)] at st'
  exact st'
theorem sb_6 (hS : ∀ n, n < N → rowOk κ α β γ E n) (hN : N < 2 ^ 31) {n x y : Nat} (hn : n < N) (hx : x < n) (hy : y < n) (k : κ n = 6) (a : α n = nI x) (b : β n = nI y) : sb κ α β γ st fc n = mkE (sb κ α β γ st fc x) (sb κ α β γ st fc y) := by
  have st' : sb κ α β γ st fc n = sbF κ α β γ st fc (n + 1) n := rfl
  rw [sbF] at st'
  simp (decide := true) only [if_true, if_false, k, a, b, sub_at hS hN hn x hx, sub_at hS hN hn y hy] at st'
  exact st'
theorem sb_7 (hS : ∀ n, n < N → rowOk κ α β γ E n) (hN : N < 2 ^ 31) {n x : Nat} (hn : n < N) (hx : x < n) (k : κ n = 7) (a : α n = nI x) : sb κ α β γ st fc n = mkN (sb κ α β γ st fc x) := by
  have st' : sb κ α β γ st fc n = sbF κ α β γ st fc (n + 1) n := rfl
  rw [sbF] at st'
  simp (decide := true) only [if_true, if_false, k, a, sub_at hS hN hn x hx] at st'
  exact st'
theorem sb_8 (hS : ∀ n, n < N → rowOk κ α β γ E n) (hN : N < 2 ^ 31) {n x y : Nat} (hn : n < N) (hx : x < n) (hy : y < n) (k : κ n = 8) (a : α n = nI x) (b : β n = nI y) : sb κ α β γ st fc n = mkB (sb κ α β γ st fc x) (sb κ α β γ st fc y) := by
  have st' : sb κ α β γ st fc n = sbF κ α β γ st fc (n + 1) n := rfl
  rw [sbF] at st'
  simp (decide := true) only [if_true, if_false, k, a, b, sub_at hS hN hn x hx, sub_at hS hN hn y hy] at st'
  exact st'
theorem sb_9 (hS : ∀ n, n < N → rowOk κ α β γ E n) (hN : N < 2 ^ 31) {n x y z : Nat} (hn : n < N) (hx : x < n) (hy : y < n) (hz : z < n) (k : κ n = 9) (a : α n = nI x) (b : β n = nI y) (c : γ n = nI z) : sb κ α β γ st fc n = mkC (sb κ α β γ st fc x) (sb κ α β γ st fc y) (sb κ α β γ st fc z) := by
  have st' : sb κ α β γ st fc n = sbF κ α β γ st fc (n + 1) n := rfl
  rw [sbF] at st'
  simp (decide := true) only [if_true, if_false, k, a, b, c, sub_at hS hN hn x hx, sub_at hS hN hn y hy, sub_at hS hN hn z hz] at st'
  exact st'
end SB
