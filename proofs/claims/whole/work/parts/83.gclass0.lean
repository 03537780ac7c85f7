def G_JArrays_fill_5 (O : qOb9) (n : Nat) : Nat → (Nat × Nat) → Int32 → Int32 → Int32 → qS → Option (Unit × qS)
  | 0, _, _, _, _, _ => none
  | f + 1, l0, l1, l2, l3, S =>
    if l3 ≤ l2 then
      some ((), S)
    else
      hw 0 O S l0 l2 l1 (fun S2 =>
      hB (l2 + (1 : Int32)) (fun v3 =>
      (G_JArrays_fill_5 O n f) l0 l1 v3 l3 S2))
set_option maxHeartbeats 4000000 in
set_option maxRecDepth 100000 in
theorem S_JArrays_fill_5 {O : qOb9} (hO : okO O) {n : Nat} {M0 : PM} : ∀ (f : Nat) (l0 : Nat × Nat) (l1 : Int32) (l2 : Int32) (l3 : Int32) (M : PM) (S : qS), Rp O M S → Fm O M0 M → Sim eV O M0 (F_JArrays_fill_5 n f (oA O l0.1 l0.2) l1 l2 l3 M) (G_JArrays_fill_5 O n f l0 l1 l2 l3 S) := by
  intro f
  induction f with
  | zero => intro l0 l1 l2 l3 M S _ _; rw [G_JArrays_fill_5]; exact sim_none
  | succ f ih =>
    intro l0 l1 l2 l3 M S R H
    rw [F_JArrays_fill_5, G_JArrays_fill_5]
    refine sim_if (fun _ => ?_) (fun _ => ?_)
    exact sim_retV (by assumption) (by assumption)
    refine sim_wI hO (by assumption) (by assumption) (fun _ _ _ _ => ?_)
    refine sim_bI (fun _ => ?_)
    exact ih _ _ _ _ _ _ (by assumption) (by assumption)
def G_JArrays_fill (O : qOb9) (n : Nat) (l0 : Nat × Nat) (l1 : Int32) (S : qS) : Option (Unit × qS) :=
  hn O l0 (fun v1 =>
  G_JArrays_fill_5 O n n l0 l1 (0 : Int32) v1 S)
set_option maxHeartbeats 4000000 in
set_option maxRecDepth 100000 in
theorem S_JArrays_fill {O : qOb9} (hO : okO O) {n : Nat} {M0 : PM} {l0 : Nat × Nat} {l1 : Int32} {M : PM} {S : qS} (R : Rp O M S) (H : Fm O M0 M) : Sim eV O M0 (F_JArrays_fill n (oA O l0.1 l0.2) l1 M) (G_JArrays_fill O n l0 l1 S) := by
  unfold F_JArrays_fill G_JArrays_fill
  refine sim_aL (by assumption) (fun _ => ?_)
  exact S_JArrays_fill_5 hO _ _ _ _ _ _ _ (by assumption) (by assumption)
def G_XNodes_isWord_26 (O : qOb9) (n : Nat) (s0 : Int32) (S : qS) : Option (Int32 × qS) :=
  hz s0 S
set_option maxHeartbeats 4000000 in
set_option maxRecDepth 100000 in
theorem S_XNodes_isWord_26 {O : qOb9} (hO : okO O) {n : Nat} {M0 : PM} {s0 : Int32} {M : PM} {S : qS} (R : Rp O M S) (H : Fm O M0 M) : Sim eI O M0 (F_XNodes_isWord_26 n s0 M) (G_XNodes_isWord_26 O n s0 S) := by
  unfold F_XNodes_isWord_26 G_XNodes_isWord_26
  exact sim_rZ (by assumption) (by assumption)
def G_XNodes_isWord_25 (O : qOb9) (n : Nat) (S : qS) : Option (Int32 × qS) :=
  G_XNodes_isWord_26 O n (0 : Int32) S
set_option maxHeartbeats 4000000 in
set_option maxRecDepth 100000 in
theorem S_XNodes_isWord_25 {O : qOb9} (hO : okO O) {n : Nat} {M0 : PM} {M : PM} {S : qS} (R : Rp O M S) (H : Fm O M0 M) : Sim eI O M0 (F_XNodes_isWord_25 n M) (G_XNodes_isWord_25 O n S) := by
  unfold F_XNodes_isWord_25 G_XNodes_isWord_25
  exact S_XNodes_isWord_26 hO (by assumption) (by assumption)
def G_XNodes_isWord (O : qOb9) (n : Nat) (l0 : Nat) (l1 : Int32) (S : qS) : Option (Int32 × qS) :=
  if l1 < (0 : Int32) then
    G_XNodes_isWord_25 O n S
  else
    hI 3 O S l0 7 (fun v2 =>
    if v2 ≤ l1 then
      G_XNodes_isWord_25 O n S
    else
      hA 3 O l0 4 (fun v4 =>
      hl 1 O S v4 l1 (fun v5 =>
      if v5 = (0 : Int32) then
        G_XNodes_isWord_25 O n S
      else
        G_XNodes_isWord_26 O n (1 : Int32) S)))
set_option maxHeartbeats 4000000 in
set_option maxRecDepth 100000 in
theorem S_XNodes_isWord {O : qOb9} (hO : okO O) {n : Nat} {M0 : PM} {l0 : Nat} {l1 : Int32} {M : PM} {S : qS} (R : Rp O M S) (H : Fm O M0 M) : Sim eI O M0 (F_XNodes_isWord n l0 l1 M) (G_XNodes_isWord O n l0 l1 S) := by
  unfold F_XNodes_isWord G_XNodes_isWord
  refine sim_if (fun _ => ?_) (fun _ => ?_)
  exact S_XNodes_isWord_25 hO (by assumption) (by assumption)
  refine sim_gI (by assumption) (fun _ => ?_)
  refine sim_if (fun _ => ?_) (fun _ => ?_)
  exact S_XNodes_isWord_25 hO (by assumption) (by assumption)
  refine sim_gA (by assumption) (fun _ => ?_)
  refine sim_lZ (by assumption) (fun _ => ?_)
  refine sim_if (fun _ => ?_) (fun _ => ?_)
  exact S_XNodes_isWord_25 hO (by assumption) (by assumption)
  exact S_XNodes_isWord_26 hO (by assumption) (by assumption)
def G_XNodes_put_254 (O : qOb9) (n : Nat) (l7 : Int32) (s0 : Nat × Nat) (s1 : Int32) (s2 : Int32) (S : qS) : Option (Int32 × qS) :=
  hw 1 O S s0 s1 (vp_nar .boolean s2) (fun S1 =>
  some (l7, S1))
set_option maxHeartbeats 4000000 in
set_option maxRecDepth 100000 in
theorem S_XNodes_put_254 {O : qOb9} (hO : okO O) {n : Nat} {M0 : PM} {l7 : Int32} {s0 : Nat × Nat} {s1 : Int32} {s2 : Int32} {M : PM} {S : qS} (R : Rp O M S) (H : Fm O M0 M) : Sim eI O M0 (F_XNodes_put_254 n l7 (oA O s0.1 s0.2) s1 s2 M) (G_XNodes_put_254 O n l7 s0 s1 s2 S) := by
  unfold F_XNodes_put_254 G_XNodes_put_254
  refine sim_wZ hO (by assumption) (by assumption) (fun _ _ _ _ => ?_)
  exact sim_retI (by assumption) (by assumption)
def G_XNodes_put_249 (O : qOb9) (n : Nat) (l7 : Int32) (s0 : Nat × Nat) (s1 : Int32) (S : qS) : Option (Int32 × qS) :=
  G_XNodes_put_254 O n l7 s0 s1 (1 : Int32) S
set_option maxHeartbeats 4000000 in
set_option maxRecDepth 100000 in
theorem S_XNodes_put_249 {O : qOb9} (hO : okO O) {n : Nat} {M0 : PM} {l7 : Int32} {s0 : Nat × Nat} {s1 : Int32} {M : PM} {S : qS} (R : Rp O M S) (H : Fm O M0 M) : Sim eI O M0 (F_XNodes_put_249 n l7 (oA O s0.1 s0.2) s1 M) (G_XNodes_put_249 O n l7 s0 s1 S) := by
  unfold F_XNodes_put_249 G_XNodes_put_249
  exact S_XNodes_put_254 hO (by assumption) (by assumption)
def G_XNodes_put_253 (O : qOb9) (n : Nat) (l7 : Int32) (s0 : Nat × Nat) (s1 : Int32) (S : qS) : Option (Int32 × qS) :=
  G_XNodes_put_254 O n l7 s0 s1 (0 : Int32) S
set_option maxHeartbeats 4000000 in
set_option maxRecDepth 100000 in
theorem S_XNodes_put_253 {O : qOb9} (hO : okO O) {n : Nat} {M0 : PM} {l7 : Int32} {s0 : Nat × Nat} {s1 : Int32} {M : PM} {S : qS} (R : Rp O M S) (H : Fm O M0 M) : Sim eI O M0 (F_XNodes_put_253 n l7 (oA O s0.1 s0.2) s1 M) (G_XNodes_put_253 O n l7 s0 s1 S) := by
  unfold F_XNodes_put_253 G_XNodes_put_253
  exact S_XNodes_put_254 hO (by assumption) (by assumption)
def G_XNodes_put_129 (O : qOb9) (n : Nat) (l0 : Nat) (l1 : Int32) (l2 : Int32) (l3 : Int32) (l4 : Int32) (l6 : Int32) (S : qS) : Option (Int32 × qS) :=
  hI 3 O S l0 7 (fun v1 =>
  hA 3 O l0 0 (fun v2 =>
  hn O v2 (fun v3 =>
  if v1 < v3 then
    hI 3 O S l0 7 (fun v5 =>
    hI 3 O S l0 7 (fun v6 =>
    hP 3 O S l0 7 ((v6 + (1 : Int32))) (fun S7 =>
    hA 3 O l0 0 (fun v8 =>
    hw 0 O S7 v8 v5 l1 (fun S9 =>
    hA 3 O l0 1 (fun v10 =>
    hw 0 O S9 v10 v5 l2 (fun S11 =>
    hA 3 O l0 2 (fun v12 =>
    hw 0 O S11 v12 v5 l3 (fun S13 =>
    hA 3 O l0 3 (fun v14 =>
    hw 0 O S13 v14 v5 l4 (fun S15 =>
    hA 3 O l0 6 (fun v16 =>
    hA 3 O l0 5 (fun v17 =>
    hl 0 O S15 v17 l6 (fun v18 =>
    hw 0 O S15 v16 v5 (v18 - (1 : Int32)) (fun S19 =>
    hA 3 O l0 5 (fun v20 =>
    hw 0 O S19 v20 l6 (v5 + (1 : Int32)) (fun S21 =>
    hA 3 O l0 4 (fun v22 =>
    if l1 = (3 : Int32) then
      G_XNodes_put_249 O n v5 v22 v5 S21
    else
      if l1 = (5 : Int32) then
        G_XNodes_put_249 O n v5 v22 v5 S21
      else
        if l1 = (9 : Int32) then
          hk 3 O l0 (
          yC (G_XNodes_isWord O n l0 l3 S21) (fun v27 S26 =>
          if v27 = (0 : Int32) then
            G_XNodes_put_253 O n v5 v22 v5 S26
          else
            G_XNodes_put_249 O n v5 v22 v5 S26))
        else
          G_XNodes_put_253 O n v5 v22 v5 S21))))))))))))))))))
  else
    some ((-1 : Int32), S))))
set_option maxHeartbeats 4000000 in
set_option maxRecDepth 100000 in
theorem S_XNodes_put_129 {O : qOb9} (hO : okO O) {n : Nat} {M0 : PM} {l0 : Nat} {l1 : Int32} {l2 : Int32} {l3 : Int32} {l4 : Int32} {l6 : Int32} {M : PM} {S : qS} (R : Rp O M S) (H : Fm O M0 M) : Sim eI O M0 (F_XNodes_put_129 n l0 l1 l2 l3 l4 l6 M) (G_XNodes_put_129 O n l0 l1 l2 l3 l4 l6 S) := by
  unfold F_XNodes_put_129 G_XNodes_put_129
  refine sim_gI (by assumption) (fun _ => ?_)
  refine sim_gA (by assumption) (fun _ => ?_)
  refine sim_aL (by assumption) (fun _ => ?_)
  refine sim_if (fun _ => ?_) (fun _ => ?_)
  refine sim_gI (by assumption) (fun _ => ?_)
  refine sim_gI (by assumption) (fun _ => ?_)
  refine sim_pF (by assumption) (by assumption) (fun _ _ _ _ => ?_)
  refine sim_gA (by assumption) (fun _ => ?_)
  refine sim_wI hO (by assumption) (by assumption) (fun _ _ _ _ => ?_)
  refine sim_gA (by assumption) (fun _ => ?_)
  refine sim_wI hO (by assumption) (by assumption) (fun _ _ _ _ => ?_)
  refine sim_gA (by assumption) (fun _ => ?_)
  refine sim_wI hO (by assumption) (by assumption) (fun _ _ _ _ => ?_)
  refine sim_gA (by assumption) (fun _ => ?_)
  refine sim_wI hO (by assumption) (by assumption) (fun _ _ _ _ => ?_)
  refine sim_gA (by assumption) (fun _ => ?_)
  refine sim_gA (by assumption) (fun _ => ?_)
  refine sim_lI (by assumption) (fun _ => ?_)
  refine sim_wI hO (by assumption) (by assumption) (fun _ _ _ _ => ?_)
  refine sim_gA (by assumption) (fun _ => ?_)
  refine sim_wI hO (by assumption) (by assumption) (fun _ _ _ _ => ?_)
  refine sim_gA (by assumption) (fun _ => ?_)
  refine sim_if (fun _ => ?_) (fun _ => ?_)
  exact S_XNodes_put_249 hO (by assumption) (by assumption)
  refine sim_if (fun _ => ?_) (fun _ => ?_)
  exact S_XNodes_put_249 hO (by assumption) (by assumption)
  refine sim_if (fun _ => ?_) (fun _ => ?_)
  refine sim_kO (by assumption) ?_
  refine sim_cI (S_XNodes_isWord hO (by assumption) (by assumption)) (fun _ _ _ _ _ => ?_)
  refine sim_if (fun _ => ?_) (fun _ => ?_)
  exact S_XNodes_put_253 hO (by assumption) (by assumption)
  exact S_XNodes_put_249 hO (by assumption) (by assumption)
  exact S_XNodes_put_253 hO (by assumption) (by assumption)
  exact sim_retI (by assumption) (by assumption)
def G_XNodes_put_114 (O : qOb9) (n : Nat) (rec56 : Nat → Int32 → Int32 → Int32 → Int32 → Int32 → Int32 → Int32 → qS → Option (Int32 × qS)) (l0 : Nat) (l1 : Int32) (l2 : Int32) (l3 : Int32) (l4 : Int32) (l6 : Int32) (l7 : Int32) (l8 : Int32) (S : qS) : Option (Int32 × qS) :=
  hA 3 O l0 6 (fun v1 =>
  hl 0 O S v1 l7 (fun v2 =>
  hB (l8 + (-1 : Int32)) (fun v3 =>
  rec56 l0 l1 l2 l3 l4 l6 v2 v3 S)))
set_option maxHeartbeats 4000000 in
set_option maxRecDepth 100000 in
theorem S_XNodes_put_114 {O : qOb9} (hO : okO O) {n : Nat} {M0 : PM} {rec56 : Nat → Int32 → Int32 → Int32 → Int32 → Int32 → Int32 → Int32 → PM → qO} {grec56 : Nat → Int32 → Int32 → Int32 → Int32 → Int32 → Int32 → Int32 → qS → Option (Int32 × qS)} (hrec56 : ∀ (l0 : Nat) (l1 : Int32) (l2 : Int32) (l3 : Int32) (l4 : Int32) (l6 : Int32) (l7 : Int32) (l8 : Int32) (M : PM) (S : qS), Rp O M S → Fm O M0 M → Sim eI O M0 (rec56 l0 l1 l2 l3 l4 l6 l7 l8 M) (grec56 l0 l1 l2 l3 l4 l6 l7 l8 S)) {l0 : Nat} {l1 : Int32} {l2 : Int32} {l3 : Int32} {l4 : Int32} {l6 : Int32} {l7 : Int32} {l8 : Int32} {M : PM} {S : qS} (R : Rp O M S) (H : Fm O M0 M) : Sim eI O M0 (F_XNodes_put_114 n rec56 l0 l1 l2 l3 l4 l6 l7 l8 M) (G_XNodes_put_114 O n grec56 l0 l1 l2 l3 l4 l6 l7 l8 S) := by
  unfold F_XNodes_put_114 G_XNodes_put_114
  refine sim_gA (by assumption) (fun _ => ?_)
  refine sim_lI (by assumption) (fun _ => ?_)
  refine sim_bI (fun _ => ?_)
  exact hrec56 _ _ _ _ _ _ _ _ _ _ (by assumption) (by assumption)
def G_XNodes_put_56 (O : qOb9) (n : Nat) : Nat → Nat → Int32 → Int32 → Int32 → Int32 → Int32 → Int32 → Int32 → qS → Option (Int32 × qS)
  | 0, _, _, _, _, _, _, _, _, _ => none
  | f + 1, l0, l1, l2, l3, l4, l6, l7, l8, S =>
    if l8 ≤ (0 : Int32) then
      G_XNodes_put_129 O n l0 l1 l2 l3 l4 l6 S
    else
      if l7 < (0 : Int32) then
        G_XNodes_put_129 O n l0 l1 l2 l3 l4 l6 S
      else
        hA 3 O l0 0 (fun v3 =>
        hl 0 O S v3 l7 (fun v4 =>
        if v4 = l1 then
          hA 3 O l0 1 (fun v6 =>
          hl 0 O S v6 l7 (fun v7 =>
          if v7 = l2 then
            hA 3 O l0 2 (fun v9 =>
            hl 0 O S v9 l7 (fun v10 =>
            if v10 = l3 then
              hA 3 O l0 3 (fun v12 =>
              hl 0 O S v12 l7 (fun v13 =>
              if v13 = l4 then
                some (l7, S)
              else
                G_XNodes_put_114 O n (G_XNodes_put_56 O n f) l0 l1 l2 l3 l4 l6 l7 l8 S))
            else
              G_XNodes_put_114 O n (G_XNodes_put_56 O n f) l0 l1 l2 l3 l4 l6 l7 l8 S))
          else
            G_XNodes_put_114 O n (G_XNodes_put_56 O n f) l0 l1 l2 l3 l4 l6 l7 l8 S))
        else
          G_XNodes_put_114 O n (G_XNodes_put_56 O n f) l0 l1 l2 l3 l4 l6 l7 l8 S))
set_option maxHeartbeats 4000000 in
set_option maxRecDepth 100000 in
theorem S_XNodes_put_56 {O : qOb9} (hO : okO O) {n : Nat} {M0 : PM} : ∀ (f : Nat) (l0 : Nat) (l1 : Int32) (l2 : Int32) (l3 : Int32) (l4 : Int32) (l6 : Int32) (l7 : Int32) (l8 : Int32) (M : PM) (S : qS), Rp O M S → Fm O M0 M → Sim eI O M0 (F_XNodes_put_56 n f l0 l1 l2 l3 l4 l6 l7 l8 M) (G_XNodes_put_56 O n f l0 l1 l2 l3 l4 l6 l7 l8 S) := by
  intro f
  induction f with
  | zero => intro l0 l1 l2 l3 l4 l6 l7 l8 M S _ _; rw [G_XNodes_put_56]; exact sim_none
  | succ f ih =>
    intro l0 l1 l2 l3 l4 l6 l7 l8 M S R H
    rw [F_XNodes_put_56, G_XNodes_put_56]
    refine sim_if (fun _ => ?_) (fun _ => ?_)
    exact S_XNodes_put_129 hO (by assumption) (by assumption)
    refine sim_if (fun _ => ?_) (fun _ => ?_)
    exact S_XNodes_put_129 hO (by assumption) (by assumption)
    refine sim_gA (by assumption) (fun _ => ?_)
    refine sim_lI (by assumption) (fun _ => ?_)
    refine sim_if (fun _ => ?_) (fun _ => ?_)
    refine sim_gA (by assumption) (fun _ => ?_)
    refine sim_lI (by assumption) (fun _ => ?_)
    refine sim_if (fun _ => ?_) (fun _ => ?_)
    refine sim_gA (by assumption) (fun _ => ?_)
    refine sim_lI (by assumption) (fun _ => ?_)
    refine sim_if (fun _ => ?_) (fun _ => ?_)
    refine sim_gA (by assumption) (fun _ => ?_)
    refine sim_lI (by assumption) (fun _ => ?_)
    refine sim_if (fun _ => ?_) (fun _ => ?_)
    exact sim_retI (by assumption) (by assumption)
    exact S_XNodes_put_114 hO ih (by assumption) (by assumption)
    exact S_XNodes_put_114 hO ih (by assumption) (by assumption)
    exact S_XNodes_put_114 hO ih (by assumption) (by assumption)
    exact S_XNodes_put_114 hO ih (by assumption) (by assumption)
def G_XNodes_put (O : qOb9) (n : Nat) (l0 : Nat) (l1 : Int32) (l2 : Int32) (l3 : Int32) (l4 : Int32) (S : qS) : Option (Int32 × qS) :=
  hB ((((((l1 * (31 : Int32)) + l2) * (131 : Int32)) + l3) * (523 : Int32)) + l4) (fun v1 =>
  hA 3 O l0 5 (fun v2 =>
  hn O v2 (fun v3 =>
  hB ((v1 ^^^ ((v1.toUInt32 >>> ((13 : Int32).toUInt32 &&& Int32.toUInt32 31)).toInt32)) &&& (v3 - (1 : Int32))) (fun v4 =>
  hA 3 O l0 5 (fun v5 =>
  hl 0 O S v5 v4 (fun v6 =>
  hB (v6 - (1 : Int32)) (fun v7 =>
  hI 3 O S l0 7 (fun v8 =>
  G_XNodes_put_56 O n n l0 l1 l2 l3 l4 v4 v7 v8 S))))))))
set_option maxHeartbeats 4000000 in
set_option maxRecDepth 100000 in
theorem S_XNodes_put {O : qOb9} (hO : okO O) {n : Nat} {M0 : PM} {l0 : Nat} {l1 : Int32} {l2 : Int32} {l3 : Int32} {l4 : Int32} {M : PM} {S : qS} (R : Rp O M S) (H : Fm O M0 M) : Sim eI O M0 (F_XNodes_put n l0 l1 l2 l3 l4 M) (G_XNodes_put O n l0 l1 l2 l3 l4 S) := by
  unfold F_XNodes_put G_XNodes_put
  refine sim_bI (fun _ => ?_)
  refine sim_gA (by assumption) (fun _ => ?_)
  refine sim_aL (by assumption) (fun _ => ?_)
  refine sim_bI (fun _ => ?_)
  refine sim_gA (by assumption) (fun _ => ?_)
  refine sim_lI (by assumption) (fun _ => ?_)
  refine sim_bI (fun _ => ?_)
  refine sim_gI (by assumption) (fun _ => ?_)
  exact S_XNodes_put_56 hO _ _ _ _ _ _ _ _ _ _ _ (by assumption) (by assumption)
def G_XNodes_reset (O : qOb9) (n : Nat) (l0 : Nat) (S : qS) : Option (Unit × qS) :=
  hA 3 O l0 5 (fun v1 =>
  yV (G_JArrays_fill O n v1 (0 : Int32) S) (fun S2 =>
  hP 3 O S2 l0 7 ((0 : Int32)) (fun S3 =>
  hk 3 O l0 (
  yC (G_XNodes_put O n l0 (0 : Int32) (-1 : Int32) (-1 : Int32) (-1 : Int32) S3) (fun v5 S4 =>
  hk 3 O l0 (
  yC (G_XNodes_put O n l0 (1 : Int32) (-1 : Int32) (-1 : Int32) (-1 : Int32) S4) (fun v7 S6 =>
  hk 3 O l0 (
  yC (G_XNodes_put O n l0 (2 : Int32) (-1 : Int32) (-1 : Int32) (-1 : Int32) S6) (fun v9 S8 =>
  some ((), S8))))))))))
set_option maxHeartbeats 4000000 in
set_option maxRecDepth 100000 in
theorem S_XNodes_reset {O : qOb9} (hO : okO O) {n : Nat} {M0 : PM} {l0 : Nat} {M : PM} {S : qS} (R : Rp O M S) (H : Fm O M0 M) : Sim eV O M0 (F_XNodes_reset n l0 M) (G_XNodes_reset O n l0 S) := by
  unfold F_XNodes_reset G_XNodes_reset
  refine sim_gA (by assumption) (fun _ => ?_)
  refine sim_cV (S_JArrays_fill hO (by assumption) (by assumption)) (fun _ _ _ _ => ?_)
  refine sim_pF (by assumption) (by assumption) (fun _ _ _ _ => ?_)
  refine sim_kO (by assumption) ?_
  refine sim_cI (S_XNodes_put hO (by assumption) (by assumption)) (fun _ _ _ _ _ => ?_)
  refine sim_kO (by assumption) ?_
  refine sim_cI (S_XNodes_put hO (by assumption) (by assumption)) (fun _ _ _ _ _ => ?_)
  refine sim_kO (by assumption) ?_
  refine sim_cI (S_XNodes_put hO (by assumption) (by assumption)) (fun _ _ _ _ _ => ?_)
  exact sim_retV (by assumption) (by assumption)
def G_XNodes_unmark_26 (O : qOb9) (n : Nat) (S : qS) : Option (Unit × qS) :=
  some ((), S)
set_option maxHeartbeats 4000000 in
set_option maxRecDepth 100000 in
theorem S_XNodes_unmark_26 {O : qOb9} (hO : okO O) {n : Nat} {M0 : PM} {M : PM} {S : qS} (R : Rp O M S) (H : Fm O M0 M) : Sim eV O M0 (F_XNodes_unmark_26 n M) (G_XNodes_unmark_26 O n S) := by
  unfold F_XNodes_unmark_26 G_XNodes_unmark_26
  exact sim_retV (by assumption) (by assumption)
def G_XNodes_unmark_2 (O : qOb9) (n : Nat) : Nat → Nat → (Nat × Nat) → Int32 → qS → Option (Unit × qS)
  | 0, _, _, _, _ => none
  | f + 1, l0, l1, l2, S =>
    hI 3 O S l0 7 (fun v1 =>
    if v1 ≤ l2 then
      G_XNodes_unmark_26 O n S
    else
      hn O l1 (fun v3 =>
      if v3 ≤ l2 then
        G_XNodes_unmark_26 O n S
      else
        hw 1 O S l1 l2 (vp_nar .boolean (0 : Int32)) (fun S5 =>
        hB (l2 + (1 : Int32)) (fun v6 =>
        (G_XNodes_unmark_2 O n f) l0 l1 v6 S5))))
set_option maxHeartbeats 4000000 in
set_option maxRecDepth 100000 in
theorem S_XNodes_unmark_2 {O : qOb9} (hO : okO O) {n : Nat} {M0 : PM} : ∀ (f : Nat) (l0 : Nat) (l1 : Nat × Nat) (l2 : Int32) (M : PM) (S : qS), Rp O M S → Fm O M0 M → Sim eV O M0 (F_XNodes_unmark_2 n f l0 (oA O l1.1 l1.2) l2 M) (G_XNodes_unmark_2 O n f l0 l1 l2 S) := by
  intro f
  induction f with
  | zero => intro l0 l1 l2 M S _ _; rw [G_XNodes_unmark_2]; exact sim_none
  | succ f ih =>
    intro l0 l1 l2 M S R H
    rw [F_XNodes_unmark_2, G_XNodes_unmark_2]
    refine sim_gI (by assumption) (fun _ => ?_)
    refine sim_if (fun _ => ?_) (fun _ => ?_)
    exact S_XNodes_unmark_26 hO (by assumption) (by assumption)
    refine sim_aL (by assumption) (fun _ => ?_)
    refine sim_if (fun _ => ?_) (fun _ => ?_)
    exact S_XNodes_unmark_26 hO (by assumption) (by assumption)
    refine sim_wZ hO (by assumption) (by assumption) (fun _ _ _ _ => ?_)
    refine sim_bI (fun _ => ?_)
    exact ih _ _ _ _ _ (by assumption) (by assumption)
def G_XNodes_unmark (O : qOb9) (n : Nat) (l0 : Nat) (l1 : Nat × Nat) (S : qS) : Option (Unit × qS) :=
  G_XNodes_unmark_2 O n n l0 l1 (0 : Int32) S
set_option maxHeartbeats 4000000 in
set_option maxRecDepth 100000 in
theorem S_XNodes_unmark {O : qOb9} (hO : okO O) {n : Nat} {M0 : PM} {l0 : Nat} {l1 : Nat × Nat} {M : PM} {S : qS} (R : Rp O M S) (H : Fm O M0 M) : Sim eV O M0 (F_XNodes_unmark n l0 (oA O l1.1 l1.2) M) (G_XNodes_unmark O n l0 l1 S) := by
  unfold F_XNodes_unmark G_XNodes_unmark
  exact S_XNodes_unmark_2 hO _ _ _ _ _ _ (by assumption) (by assumption)
def G_XNodes_has_17 (O : qOb9) (n : Nat) (s0 : Int32) (S : qS) : Option (Int32 × qS) :=
  hz s0 S
set_option maxHeartbeats 4000000 in
set_option maxRecDepth 100000 in
theorem S_XNodes_has_17 {O : qOb9} (hO : okO O) {n : Nat} {M0 : PM} {s0 : Int32} {M : PM} {S : qS} (R : Rp O M S) (H : Fm O M0 M) : Sim eI O M0 (F_XNodes_has_17 n s0 M) (G_XNodes_has_17 O n s0 S) := by
  unfold F_XNodes_has_17 G_XNodes_has_17
  exact sim_rZ (by assumption) (by assumption)
def G_XNodes_has_16 (O : qOb9) (n : Nat) (S : qS) : Option (Int32 × qS) :=
  G_XNodes_has_17 O n (0 : Int32) S
set_option maxHeartbeats 4000000 in
set_option maxRecDepth 100000 in
theorem S_XNodes_has_16 {O : qOb9} (hO : okO O) {n : Nat} {M0 : PM} {M : PM} {S : qS} (R : Rp O M S) (H : Fm O M0 M) : Sim eI O M0 (F_XNodes_has_16 n M) (G_XNodes_has_16 O n S) := by
  unfold F_XNodes_has_16 G_XNodes_has_16
  exact S_XNodes_has_17 hO (by assumption) (by assumption)
def G_XNodes_has (O : qOb9) (n : Nat) (l0 : Nat) (l1 : Int32) (S : qS) : Option (Int32 × qS) :=
  if l1 < (0 : Int32) then
    G_XNodes_has_16 O n S
  else
    hI 3 O S l0 7 (fun v2 =>
    if v2 ≤ l1 then
      G_XNodes_has_16 O n S
    else
      G_XNodes_has_17 O n (1 : Int32) S)
set_option maxHeartbeats 4000000 in
set_option maxRecDepth 100000 in
theorem S_XNodes_has {O : qOb9} (hO : okO O) {n : Nat} {M0 : PM} {l0 : Nat} {l1 : Int32} {M : PM} {S : qS} (R : Rp O M S) (H : Fm O M0 M) : Sim eI O M0 (F_XNodes_has n l0 l1 M) (G_XNodes_has O n l0 l1 S) := by
  unfold F_XNodes_has G_XNodes_has
  refine sim_if (fun _ => ?_) (fun _ => ?_)
  exact S_XNodes_has_16 hO (by assumption) (by assumption)
  refine sim_gI (by assumption) (fun _ => ?_)
  refine sim_if (fun _ => ?_) (fun _ => ?_)
  exact S_XNodes_has_16 hO (by assumption) (by assumption)
  exact S_XNodes_has_17 hO (by assumption) (by assumption)
def G_XNodes_mark_18 (O : qOb9) (n : Nat) (S : qS) : Option (Unit × qS) :=
  some ((), S)
set_option maxHeartbeats 4000000 in
set_option maxRecDepth 100000 in
theorem S_XNodes_mark_18 {O : qOb9} (hO : okO O) {n : Nat} {M0 : PM} {M : PM} {S : qS} (R : Rp O M S) (H : Fm O M0 M) : Sim eV O M0 (F_XNodes_mark_18 n M) (G_XNodes_mark_18 O n S) := by
  unfold F_XNodes_mark_18 G_XNodes_mark_18
  exact sim_retV (by assumption) (by assumption)
def G_XNodes_mark (O : qOb9) (n : Nat) (l0 : Nat) (l1 : Nat × Nat) (l2 : Int32) (S : qS) : Option (Unit × qS) :=
  hk 3 O l0 (
  yC (G_XNodes_has O n l0 l2 S) (fun v2 S1 =>
  if v2 = (0 : Int32) then
    G_XNodes_mark_18 O n S1
  else
    hn O l1 (fun v4 =>
    if v4 ≤ l2 then
      G_XNodes_mark_18 O n S1
    else
      hw 1 O S1 l1 l2 (vp_nar .boolean (1 : Int32)) (fun S6 =>
      G_XNodes_mark_18 O n S6))))
set_option maxHeartbeats 4000000 in
set_option maxRecDepth 100000 in
theorem S_XNodes_mark {O : qOb9} (hO : okO O) {n : Nat} {M0 : PM} {l0 : Nat} {l1 : Nat × Nat} {l2 : Int32} {M : PM} {S : qS} (R : Rp O M S) (H : Fm O M0 M) : Sim eV O M0 (F_XNodes_mark n l0 (oA O l1.1 l1.2) l2 M) (G_XNodes_mark O n l0 l1 l2 S) := by
  unfold F_XNodes_mark G_XNodes_mark
  refine sim_kO (by assumption) ?_
  refine sim_cI (S_XNodes_has hO (by assumption) (by assumption)) (fun _ _ _ _ _ => ?_)
  refine sim_if (fun _ => ?_) (fun _ => ?_)
  exact S_XNodes_mark_18 hO (by assumption) (by assumption)
  refine sim_aL (by assumption) (fun _ => ?_)
  refine sim_if (fun _ => ?_) (fun _ => ?_)
  exact S_XNodes_mark_18 hO (by assumption) (by assumption)
  refine sim_wZ hO (by assumption) (by assumption) (fun _ _ _ _ => ?_)
  exact S_XNodes_mark_18 hO (by assumption) (by assumption)
def G_XNodes_spread_71 (O : qOb9) (n : Nat) (rec7 : Nat → (Nat × Nat) → Int32 → qS → Option (Unit × qS)) (l0 : Nat) (l1 : Nat × Nat) (l2 : Int32) (S : qS) : Option (Unit × qS) :=
  hB (l2 + (-1 : Int32)) (fun v1 =>
  rec7 l0 l1 v1 S)
set_option maxHeartbeats 4000000 in
set_option maxRecDepth 100000 in
theorem S_XNodes_spread_71 {O : qOb9} (hO : okO O) {n : Nat} {M0 : PM} {rec7 : Nat → Nat → Int32 → PM → qO} {grec7 : Nat → (Nat × Nat) → Int32 → qS → Option (Unit × qS)} (hrec7 : ∀ (l0 : Nat) (l1 : Nat × Nat) (l2 : Int32) (M : PM) (S : qS), Rp O M S → Fm O M0 M → Sim eV O M0 (rec7 l0 (oA O l1.1 l1.2) l2 M) (grec7 l0 l1 l2 S)) {l0 : Nat} {l1 : Nat × Nat} {l2 : Int32} {M : PM} {S : qS} (R : Rp O M S) (H : Fm O M0 M) : Sim eV O M0 (F_XNodes_spread_71 n rec7 l0 (oA O l1.1 l1.2) l2 M) (G_XNodes_spread_71 O n grec7 l0 l1 l2 S) := by
  unfold F_XNodes_spread_71 G_XNodes_spread_71
  refine sim_bI (fun _ => ?_)
  exact hrec7 _ _ _ _ _ (by assumption) (by assumption)
def G_XNodes_spread_7 (O : qOb9) (n : Nat) : Nat → Nat → (Nat × Nat) → Int32 → qS → Option (Unit × qS)
  | 0, _, _, _, _ => none
  | f + 1, l0, l1, l2, S =>
    if l2 < (0 : Int32) then
      some ((), S)
    else
      hl 1 O S l1 l2 (fun v2 =>
      if v2 = (0 : Int32) then
        G_XNodes_spread_71 O n (G_XNodes_spread_7 O n f) l0 l1 l2 S
      else
        hA 3 O l0 0 (fun v4 =>
        hl 0 O S v4 l2 (fun v5 =>
        if v5 < (5 : Int32) then
          G_XNodes_spread_71 O n (G_XNodes_spread_7 O n f) l0 l1 l2 S
        else
          hA 3 O l0 1 (fun v7 =>
          hl 0 O S v7 l2 (fun v8 =>
          hk 3 O l0 (
          yV (G_XNodes_mark O n l0 l1 v8 S) (fun S9 =>
          hA 3 O l0 2 (fun v10 =>
          hl 0 O S9 v10 l2 (fun v11 =>
          hk 3 O l0 (
          yV (G_XNodes_mark O n l0 l1 v11 S9) (fun S12 =>
          hA 3 O l0 0 (fun v13 =>
          hl 0 O S12 v13 l2 (fun v14 =>
          if v14 = (9 : Int32) then
            hA 3 O l0 3 (fun v16 =>
            hl 0 O S12 v16 l2 (fun v17 =>
            hk 3 O l0 (
            yV (G_XNodes_mark O n l0 l1 v17 S12) (fun S18 =>
            G_XNodes_spread_71 O n (G_XNodes_spread_7 O n f) l0 l1 l2 S18))))
          else
            G_XNodes_spread_71 O n (G_XNodes_spread_7 O n f) l0 l1 l2 S12)))))))))))))
set_option maxHeartbeats 4000000 in
set_option maxRecDepth 100000 in
theorem S_XNodes_spread_7 {O : qOb9} (hO : okO O) {n : Nat} {M0 : PM} : ∀ (f : Nat) (l0 : Nat) (l1 : Nat × Nat) (l2 : Int32) (M : PM) (S : qS), Rp O M S → Fm O M0 M → Sim eV O M0 (F_XNodes_spread_7 n f l0 (oA O l1.1 l1.2) l2 M) (G_XNodes_spread_7 O n f l0 l1 l2 S) := by
  intro f
  induction f with
  | zero => intro l0 l1 l2 M S _ _; rw [G_XNodes_spread_7]; exact sim_none
  | succ f ih =>
    intro l0 l1 l2 M S R H
    rw [F_XNodes_spread_7, G_XNodes_spread_7]
    refine sim_if (fun _ => ?_) (fun _ => ?_)
    exact sim_retV (by assumption) (by assumption)
    refine sim_lZ (by assumption) (fun _ => ?_)
    refine sim_if (fun _ => ?_) (fun _ => ?_)
    exact S_XNodes_spread_71 hO ih (by assumption) (by assumption)
    refine sim_gA (by assumption) (fun _ => ?_)
    refine sim_lI (by assumption) (fun _ => ?_)
    refine sim_if (fun _ => ?_) (fun _ => ?_)
    exact S_XNodes_spread_71 hO ih (by assumption) (by assumption)
    refine sim_gA (by assumption) (fun _ => ?_)
    refine sim_lI (by assumption) (fun _ => ?_)
    refine sim_kO (by assumption) ?_
    refine sim_cV (S_XNodes_mark hO (by assumption) (by assumption)) (fun _ _ _ _ => ?_)
    refine sim_gA (by assumption) (fun _ => ?_)
    refine sim_lI (by assumption) (fun _ => ?_)
    refine sim_kO (by assumption) ?_
    refine sim_cV (S_XNodes_mark hO (by assumption) (by assumption)) (fun _ _ _ _ => ?_)
    refine sim_gA (by assumption) (fun _ => ?_)
    refine sim_lI (by assumption) (fun _ => ?_)
    refine sim_if (fun _ => ?_) (fun _ => ?_)
    refine sim_gA (by assumption) (fun _ => ?_)
    refine sim_lI (by assumption) (fun _ => ?_)
    refine sim_kO (by assumption) ?_
    refine sim_cV (S_XNodes_mark hO (by assumption) (by assumption)) (fun _ _ _ _ => ?_)
    exact S_XNodes_spread_71 hO ih (by assumption) (by assumption)
    exact S_XNodes_spread_71 hO ih (by assumption) (by assumption)
def G_XNodes_spread (O : qOb9) (n : Nat) (l0 : Nat) (l1 : Nat × Nat) (S : qS) : Option (Unit × qS) :=
  hI 3 O S l0 7 (fun v1 =>
  hB (v1 - (1 : Int32)) (fun v2 =>
  G_XNodes_spread_7 O n n l0 l1 v2 S))
set_option maxHeartbeats 4000000 in
set_option maxRecDepth 100000 in
theorem S_XNodes_spread {O : qOb9} (hO : okO O) {n : Nat} {M0 : PM} {l0 : Nat} {l1 : Nat × Nat} {M : PM} {S : qS} (R : Rp O M S) (H : Fm O M0 M) : Sim eV O M0 (F_XNodes_spread n l0 (oA O l1.1 l1.2) M) (G_XNodes_spread O n l0 l1 S) := by
  unfold F_XNodes_spread G_XNodes_spread
  refine sim_gI (by assumption) (fun _ => ?_)
  refine sim_bI (fun _ => ?_)
  exact S_XNodes_spread_7 hO _ _ _ _ _ _ (by assumption) (by assumption)
def G_XCore_hasFetch (O : qOb9) (n : Nat) (l0 : Nat) (l1 : Int32) (S : qS) : Option (Int32 × qS) :=
  hO 2 O l0 0 (fun v1 =>
  hA 2 O l0 5 (fun v2 =>
  hk 3 O v1 (
  yV (G_XNodes_unmark O n v1 v2 S) (fun S3 =>
  hO 2 O l0 0 (fun v4 =>
  hA 2 O l0 5 (fun v5 =>
  hk 3 O v4 (
  yV (G_XNodes_mark O n v4 v5 l1 S3) (fun S6 =>
  hO 2 O l0 0 (fun v7 =>
  hA 2 O l0 5 (fun v8 =>
  hk 3 O v7 (
  yV (G_XNodes_spread O n v7 v8 S6) (fun S9 =>
  hA 2 O l0 5 (fun v10 =>
  hl 1 O S9 v10 (2 : Int32) (fun v11 =>
  hz v11 S9))))))))))))))
set_option maxHeartbeats 4000000 in
set_option maxRecDepth 100000 in
theorem S_XCore_hasFetch {O : qOb9} (hO : okO O) {n : Nat} {M0 : PM} {l0 : Nat} {l1 : Int32} {M : PM} {S : qS} (R : Rp O M S) (H : Fm O M0 M) : Sim eI O M0 (F_XCore_hasFetch n l0 l1 M) (G_XCore_hasFetch O n l0 l1 S) := by
  unfold F_XCore_hasFetch G_XCore_hasFetch
  refine sim_gO (by assumption) (fun _ => ?_)
  refine sim_gA (by assumption) (fun _ => ?_)
  refine sim_kO (by assumption) ?_
  refine sim_cV (S_XNodes_unmark hO (by assumption) (by assumption)) (fun _ _ _ _ => ?_)
  refine sim_gO (by assumption) (fun _ => ?_)
  refine sim_gA (by assumption) (fun _ => ?_)
  refine sim_kO (by assumption) ?_
  refine sim_cV (S_XNodes_mark hO (by assumption) (by assumption)) (fun _ _ _ _ => ?_)
  refine sim_gO (by assumption) (fun _ => ?_)
  refine sim_gA (by assumption) (fun _ => ?_)
  refine sim_kO (by assumption) ?_
  refine sim_cV (S_XNodes_spread hO (by assumption) (by assumption)) (fun _ _ _ _ => ?_)
  refine sim_gA (by assumption) (fun _ => ?_)
  refine sim_lZ (by assumption) (fun _ => ?_)
  exact sim_rZ (by assumption) (by assumption)
def G_XNodes_makeElement (O : qOb9) (n : Nat) (l0 : Nat) (l1 : Int32) (l2 : Int32) (S : qS) : Option (Int32 × qS) :=
  hk 3 O l0 (
  yC (G_XNodes_put O n l0 l1 l2 (-1 : Int32) (-1 : Int32) S) (fun v2 S1 =>
  some (v2, S1)))
set_option maxHeartbeats 4000000 in
set_option maxRecDepth 100000 in
theorem S_XNodes_makeElement {O : qOb9} (hO : okO O) {n : Nat} {M0 : PM} {l0 : Nat} {l1 : Int32} {l2 : Int32} {M : PM} {S : qS} (R : Rp O M S) (H : Fm O M0 M) : Sim eI O M0 (F_XNodes_makeElement n l0 l1 l2 M) (G_XNodes_makeElement O n l0 l1 l2 S) := by
  unfold F_XNodes_makeElement G_XNodes_makeElement
  refine sim_kO (by assumption) ?_
  refine sim_cI (S_XNodes_put hO (by assumption) (by assumption)) (fun _ _ _ _ _ => ?_)
  exact sim_retI (by assumption) (by assumption)
def G_XCore_addElement (O : qOb9) (n : Nat) (l0 : Nat) (l1 : Int32) (S : qS) : Option (Int32 × qS) :=
  hO 2 O l0 0 (fun v1 =>
  hI 2 O S l0 6 (fun v2 =>
  hk 3 O v1 (
  yC (G_XNodes_makeElement O n v1 l1 v2 S) (fun v4 S3 =>
  hA 2 O l0 1 (fun v5 =>
  hI 2 O S3 l0 6 (fun v6 =>
  hw 0 O S3 v5 v6 v4 (fun S7 =>
  hA 2 O l0 2 (fun v8 =>
  hI 2 O S7 l0 6 (fun v9 =>
  hw 0 O S7 v8 v9 (-1 : Int32) (fun S10 =>
  hA 2 O l0 3 (fun v11 =>
  hI 2 O S10 l0 6 (fun v12 =>
  hw 0 O S10 v11 v12 (-1 : Int32) (fun S13 =>
  hI 2 O S13 l0 6 (fun v14 =>
  hP 2 O S13 l0 6 ((v14 + (1 : Int32))) (fun S15 =>
  some (v4, S15))))))))))))))))
set_option maxHeartbeats 4000000 in
set_option maxRecDepth 100000 in
theorem S_XCore_addElement {O : qOb9} (hO : okO O) {n : Nat} {M0 : PM} {l0 : Nat} {l1 : Int32} {M : PM} {S : qS} (R : Rp O M S) (H : Fm O M0 M) : Sim eI O M0 (F_XCore_addElement n l0 l1 M) (G_XCore_addElement O n l0 l1 S) := by
  unfold F_XCore_addElement G_XCore_addElement
  refine sim_gO (by assumption) (fun _ => ?_)
  refine sim_gI (by assumption) (fun _ => ?_)
  refine sim_kO (by assumption) ?_
  refine sim_cI (S_XNodes_makeElement hO (by assumption) (by assumption)) (fun _ _ _ _ _ => ?_)
  refine sim_gA (by assumption) (fun _ => ?_)
  refine sim_gI (by assumption) (fun _ => ?_)
  refine sim_wI hO (by assumption) (by assumption) (fun _ _ _ _ => ?_)
  refine sim_gA (by assumption) (fun _ => ?_)
  refine sim_gI (by assumption) (fun _ => ?_)
  refine sim_wI hO (by assumption) (by assumption) (fun _ _ _ _ => ?_)
  refine sim_gA (by assumption) (fun _ => ?_)
  refine sim_gI (by assumption) (fun _ => ?_)
  refine sim_wI hO (by assumption) (by assumption) (fun _ _ _ _ => ?_)
  refine sim_gI (by assumption) (fun _ => ?_)
  refine sim_pF (by assumption) (by assumption) (fun _ _ _ _ => ?_)
  exact sim_retI (by assumption) (by assumption)
def G_XCore_tellNext_15 (O : qOb9) (n : Nat) (l0 : Nat) (l1 : Int32) (l2 : Int32) (s0 : Int32) (S : qS) : Option (Int32 × qS) :=
  hA 2 O l0 2 (fun v1 =>
  hw 0 O S v1 l1 l2 (fun S2 =>
  hz s0 S2))
set_option maxHeartbeats 4000000 in
set_option maxRecDepth 100000 in
theorem S_XCore_tellNext_15 {O : qOb9} (hO : okO O) {n : Nat} {M0 : PM} {l0 : Nat} {l1 : Int32} {l2 : Int32} {s0 : Int32} {M : PM} {S : qS} (R : Rp O M S) (H : Fm O M0 M) : Sim eI O M0 (F_XCore_tellNext_15 n l0 l1 l2 s0 M) (G_XCore_tellNext_15 O n l0 l1 l2 s0 S) := by
  unfold F_XCore_tellNext_15 G_XCore_tellNext_15
  refine sim_gA (by assumption) (fun _ => ?_)
  refine sim_wI hO (by assumption) (by assumption) (fun _ _ _ _ => ?_)
  exact sim_rZ (by assumption) (by assumption)
def G_XCore_tellNext (O : qOb9) (n : Nat) (l0 : Nat) (l1 : Int32) (l2 : Int32) (S : qS) : Option (Int32 × qS) :=
  hA 2 O l0 2 (fun v1 =>
  hl 0 O S v1 l1 (fun v2 =>
  if v2 = (-1 : Int32) then
    G_XCore_tellNext_15 O n l0 l1 l2 (0 : Int32) S
  else
    G_XCore_tellNext_15 O n l0 l1 l2 (1 : Int32) S))
set_option maxHeartbeats 4000000 in
set_option maxRecDepth 100000 in
theorem S_XCore_tellNext {O : qOb9} (hO : okO O) {n : Nat} {M0 : PM} {l0 : Nat} {l1 : Int32} {l2 : Int32} {M : PM} {S : qS} (R : Rp O M S) (H : Fm O M0 M) : Sim eI O M0 (F_XCore_tellNext n l0 l1 l2 M) (G_XCore_tellNext O n l0 l1 l2 S) := by
  unfold F_XCore_tellNext G_XCore_tellNext
  refine sim_gA (by assumption) (fun _ => ?_)
  refine sim_lI (by assumption) (fun _ => ?_)
  refine sim_if (fun _ => ?_) (fun _ => ?_)
  exact S_XCore_tellNext_15 hO (by assumption) (by assumption)
  exact S_XCore_tellNext_15 hO (by assumption) (by assumption)
def G_XCore_tellPlain_37 (O : qOb9) (n : Nat) (l3 : Int32) (S : qS) : Option (Int32 × qS) :=
  hz l3 S
set_option maxHeartbeats 4000000 in
set_option maxRecDepth 100000 in
theorem S_XCore_tellPlain_37 {O : qOb9} (hO : okO O) {n : Nat} {M0 : PM} {l3 : Int32} {M : PM} {S : qS} (R : Rp O M S) (H : Fm O M0 M) : Sim eI O M0 (F_XCore_tellPlain_37 n l3 M) (G_XCore_tellPlain_37 O n l3 S) := by
  unfold F_XCore_tellPlain_37 G_XCore_tellPlain_37
  exact sim_rZ (by assumption) (by assumption)
def G_XCore_tellPlain_15 (O : qOb9) (n : Nat) (l0 : Nat) (l1 : Int32) (l2 : Int32) (s0 : Int32) (S : qS) : Option (Int32 × qS) :=
  hA 2 O l0 3 (fun v1 =>
  hw 0 O S v1 l1 l2 (fun S2 =>
  if s0 = (0 : Int32) then
    hI 2 O S2 l0 7 (fun v4 =>
    hP 2 O S2 l0 7 ((v4 + (1 : Int32))) (fun S5 =>
    G_XCore_tellPlain_37 O n s0 S5))
  else
    G_XCore_tellPlain_37 O n s0 S2))
set_option maxHeartbeats 4000000 in
set_option maxRecDepth 100000 in
theorem S_XCore_tellPlain_15 {O : qOb9} (hO : okO O) {n : Nat} {M0 : PM} {l0 : Nat} {l1 : Int32} {l2 : Int32} {s0 : Int32} {M : PM} {S : qS} (R : Rp O M S) (H : Fm O M0 M) : Sim eI O M0 (F_XCore_tellPlain_15 n l0 l1 l2 s0 M) (G_XCore_tellPlain_15 O n l0 l1 l2 s0 S) := by
  unfold F_XCore_tellPlain_15 G_XCore_tellPlain_15
  refine sim_gA (by assumption) (fun _ => ?_)
  refine sim_wI hO (by assumption) (by assumption) (fun _ _ _ _ => ?_)
  refine sim_if (fun _ => ?_) (fun _ => ?_)
  refine sim_gI (by assumption) (fun _ => ?_)
  refine sim_pF (by assumption) (by assumption) (fun _ _ _ _ => ?_)
  exact S_XCore_tellPlain_37 hO (by assumption) (by assumption)
  exact S_XCore_tellPlain_37 hO (by assumption) (by assumption)
def G_XCore_tellPlain (O : qOb9) (n : Nat) (l0 : Nat) (l1 : Int32) (l2 : Int32) (S : qS) : Option (Int32 × qS) :=
  hA 2 O l0 3 (fun v1 =>
  hl 0 O S v1 l1 (fun v2 =>
  if v2 = (-1 : Int32) then
    G_XCore_tellPlain_15 O n l0 l1 l2 (0 : Int32) S
  else
    G_XCore_tellPlain_15 O n l0 l1 l2 (1 : Int32) S))
set_option maxHeartbeats 4000000 in
set_option maxRecDepth 100000 in
theorem S_XCore_tellPlain {O : qOb9} (hO : okO O) {n : Nat} {M0 : PM} {l0 : Nat} {l1 : Int32} {l2 : Int32} {M : PM} {S : qS} (R : Rp O M S) (H : Fm O M0 M) : Sim eI O M0 (F_XCore_tellPlain n l0 l1 l2 M) (G_XCore_tellPlain O n l0 l1 l2 S) := by
  unfold F_XCore_tellPlain G_XCore_tellPlain
  refine sim_gA (by assumption) (fun _ => ?_)
  refine sim_lI (by assumption) (fun _ => ?_)
  refine sim_if (fun _ => ?_) (fun _ => ?_)
  exact S_XCore_tellPlain_15 hO (by assumption) (by assumption)
  exact S_XCore_tellPlain_15 hO (by assumption) (by assumption)
def G_XCore_addInvariant (O : qOb9) (n : Nat) (l0 : Nat) (l1 : Int32) (S : qS) : Option (Int32 × qS) :=
  hA 2 O l0 4 (fun v1 =>
  hI 2 O S l0 8 (fun v2 =>
  hw 0 O S v1 v2 l1 (fun S3 =>
  hI 2 O S3 l0 8 (fun v4 =>
  hP 2 O S3 l0 8 ((v4 + (1 : Int32))) (fun S5 =>
  hI 2 O S5 l0 8 (fun v6 =>
  some ((v6 - (1 : Int32)), S5)))))))
set_option maxHeartbeats 4000000 in
set_option maxRecDepth 100000 in
theorem S_XCore_addInvariant {O : qOb9} (hO : okO O) {n : Nat} {M0 : PM} {l0 : Nat} {l1 : Int32} {M : PM} {S : qS} (R : Rp O M S) (H : Fm O M0 M) : Sim eI O M0 (F_XCore_addInvariant n l0 l1 M) (G_XCore_addInvariant O n l0 l1 S) := by
  unfold F_XCore_addInvariant G_XCore_addInvariant
  refine sim_gA (by assumption) (fun _ => ?_)
  refine sim_gI (by assumption) (fun _ => ?_)
  refine sim_wI hO (by assumption) (by assumption) (fun _ _ _ _ => ?_)
  refine sim_gI (by assumption) (fun _ => ?_)
  refine sim_pF (by assumption) (by assumption) (fun _ _ _ _ => ?_)
  refine sim_gI (by assumption) (fun _ => ?_)
  exact sim_retI (by assumption) (by assumption)
def G_XNodes_makeApplication (O : qOb9) (n : Nat) (l0 : Nat) (l1 : Int32) (l2 : Int32) (l3 : Int32) (S : qS) : Option (Int32 × qS) :=
  hk 3 O l0 (
  yC (G_XNodes_put O n l0 (5 : Int32) l2 l3 l1 S) (fun v2 S1 =>
  some (v2, S1)))
set_option maxHeartbeats 4000000 in
set_option maxRecDepth 100000 in
theorem S_XNodes_makeApplication {O : qOb9} (hO : okO O) {n : Nat} {M0 : PM} {l0 : Nat} {l1 : Int32} {l2 : Int32} {l3 : Int32} {M : PM} {S : qS} (R : Rp O M S) (H : Fm O M0 M) : Sim eI O M0 (F_XNodes_makeApplication n l0 l1 l2 l3 M) (G_XNodes_makeApplication O n l0 l1 l2 l3 S) := by
  unfold F_XNodes_makeApplication G_XNodes_makeApplication
  refine sim_kO (by assumption) ?_
  refine sim_cI (S_XNodes_put hO (by assumption) (by assumption)) (fun _ _ _ _ _ => ?_)
  exact sim_retI (by assumption) (by assumption)
def G_XNodes_makeEquality (O : qOb9) (n : Nat) (l0 : Nat) (l1 : Int32) (l2 : Int32) (S : qS) : Option (Int32 × qS) :=
  if l1 = l2 then
    some ((1 : Int32), S)
  else
    hB (if l2 < l1 then l2 else l1) (fun v2 =>
    hB (if l1 < l2 then l2 else l1) (fun v3 =>
    hk 3 O l0 (
    yC (G_XNodes_put O n l0 (6 : Int32) v2 v3 (-1 : Int32) S) (fun v5 S4 =>
    some (v5, S4)))))
set_option maxHeartbeats 4000000 in
set_option maxRecDepth 100000 in
theorem S_XNodes_makeEquality {O : qOb9} (hO : okO O) {n : Nat} {M0 : PM} {l0 : Nat} {l1 : Int32} {l2 : Int32} {M : PM} {S : qS} (R : Rp O M S) (H : Fm O M0 M) : Sim eI O M0 (F_XNodes_makeEquality n l0 l1 l2 M) (G_XNodes_makeEquality O n l0 l1 l2 S) := by
  unfold F_XNodes_makeEquality G_XNodes_makeEquality
  refine sim_if (fun _ => ?_) (fun _ => ?_)
  exact sim_retI (by assumption) (by assumption)
  refine sim_bI (fun _ => ?_)
  refine sim_bI (fun _ => ?_)
  refine sim_kO (by assumption) ?_
  refine sim_cI (S_XNodes_put hO (by assumption) (by assumption)) (fun _ _ _ _ _ => ?_)
  exact sim_retI (by assumption) (by assumption)
def G_XNodes_makeNot_39 (O : qOb9) (n : Nat) (l0 : Nat) (l1 : Int32) (S : qS) : Option (Int32 × qS) :=
  hk 3 O l0 (
  yC (G_XNodes_put O n l0 (7 : Int32) l1 (-1 : Int32) (-1 : Int32) S) (fun v2 S1 =>
  some (v2, S1)))
set_option maxHeartbeats 4000000 in
set_option maxRecDepth 100000 in
theorem S_XNodes_makeNot_39 {O : qOb9} (hO : okO O) {n : Nat} {M0 : PM} {l0 : Nat} {l1 : Int32} {M : PM} {S : qS} (R : Rp O M S) (H : Fm O M0 M) : Sim eI O M0 (F_XNodes_makeNot_39 n l0 l1 M) (G_XNodes_makeNot_39 O n l0 l1 S) := by
  unfold F_XNodes_makeNot_39 G_XNodes_makeNot_39
  refine sim_kO (by assumption) ?_
  refine sim_cI (S_XNodes_put hO (by assumption) (by assumption)) (fun _ _ _ _ _ => ?_)
  exact sim_retI (by assumption) (by assumption)
def G_XNodes_makeNot (O : qOb9) (n : Nat) (l0 : Nat) (l1 : Int32) (S : qS) : Option (Int32 × qS) :=
  if l1 = (1 : Int32) then
    some ((0 : Int32), S)
  else
    if l1 = (0 : Int32) then
      some ((1 : Int32), S)
    else
      hk 3 O l0 (
      yC (G_XNodes_has O n l0 l1 S) (fun v4 S3 =>
      if v4 = (0 : Int32) then
        G_XNodes_makeNot_39 O n l0 l1 S3
      else
        hA 3 O l0 0 (fun v6 =>
        hl 0 O S3 v6 l1 (fun v7 =>
        if v7 = (7 : Int32) then
          hA 3 O l0 1 (fun v9 =>
          hl 0 O S3 v9 l1 (fun v10 =>
          some (v10, S3)))
        else
          G_XNodes_makeNot_39 O n l0 l1 S3))))
set_option maxHeartbeats 4000000 in
set_option maxRecDepth 100000 in
theorem S_XNodes_makeNot {O : qOb9} (hO : okO O) {n : Nat} {M0 : PM} {l0 : Nat} {l1 : Int32} {M : PM} {S : qS} (R : Rp O M S) (H : Fm O M0 M) : Sim eI O M0 (F_XNodes_makeNot n l0 l1 M) (G_XNodes_makeNot O n l0 l1 S) := by
  unfold F_XNodes_makeNot G_XNodes_makeNot
  refine sim_if (fun _ => ?_) (fun _ => ?_)
  exact sim_retI (by assumption) (by assumption)
  refine sim_if (fun _ => ?_) (fun _ => ?_)
  exact sim_retI (by assumption) (by assumption)
  refine sim_kO (by assumption) ?_
  refine sim_cI (S_XNodes_has hO (by assumption) (by assumption)) (fun _ _ _ _ _ => ?_)
  refine sim_if (fun _ => ?_) (fun _ => ?_)
  exact S_XNodes_makeNot_39 hO (by assumption) (by assumption)
  refine sim_gA (by assumption) (fun _ => ?_)
  refine sim_lI (by assumption) (fun _ => ?_)
  refine sim_if (fun _ => ?_) (fun _ => ?_)
  refine sim_gA (by assumption) (fun _ => ?_)
  refine sim_lI (by assumption) (fun _ => ?_)
  exact sim_retI (by assumption) (by assumption)
  exact S_XNodes_makeNot_39 hO (by assumption) (by assumption)
def G_XNodes_makeBoth_8 (O : qOb9) (n : Nat) (S : qS) : Option (Int32 × qS) :=
  some ((0 : Int32), S)
set_option maxHeartbeats 4000000 in
set_option maxRecDepth 100000 in
theorem S_XNodes_makeBoth_8 {O : qOb9} (hO : okO O) {n : Nat} {M0 : PM} {M : PM} {S : qS} (R : Rp O M S) (H : Fm O M0 M) : Sim eI O M0 (F_XNodes_makeBoth_8 n M) (G_XNodes_makeBoth_8 O n S) := by
  unfold F_XNodes_makeBoth_8 G_XNodes_makeBoth_8
  exact sim_retI (by assumption) (by assumption)
def G_XNodes_makeBoth_20 (O : qOb9) (n : Nat) (l2 : Int32) (S : qS) : Option (Int32 × qS) :=
  some (l2, S)
set_option maxHeartbeats 4000000 in
set_option maxRecDepth 100000 in
theorem S_XNodes_makeBoth_20 {O : qOb9} (hO : okO O) {n : Nat} {M0 : PM} {l2 : Int32} {M : PM} {S : qS} (R : Rp O M S) (H : Fm O M0 M) : Sim eI O M0 (F_XNodes_makeBoth_20 n l2 M) (G_XNodes_makeBoth_20 O n l2 S) := by
  unfold F_XNodes_makeBoth_20 G_XNodes_makeBoth_20
  exact sim_retI (by assumption) (by assumption)
def G_XNodes_makeBoth (O : qOb9) (n : Nat) (l0 : Nat) (l1 : Int32) (l2 : Int32) (S : qS) : Option (Int32 × qS) :=
  if l1 = (0 : Int32) then
    G_XNodes_makeBoth_8 O n S
  else
    if l2 = (0 : Int32) then
      G_XNodes_makeBoth_8 O n S
    else
      if l1 = (1 : Int32) then
        G_XNodes_makeBoth_20 O n l2 S
      else
        if l1 = l2 then
          G_XNodes_makeBoth_20 O n l2 S
        else
          if l2 = (1 : Int32) then
            some (l1, S)
          else
            hB (if l2 < l1 then l2 else l1) (fun v6 =>
            hB (if l1 < l2 then l2 else l1) (fun v7 =>
            hk 3 O l0 (
            yC (G_XNodes_put O n l0 (8 : Int32) v6 v7 (-1 : Int32) S) (fun v9 S8 =>
            some (v9, S8)))))
set_option maxHeartbeats 4000000 in
set_option maxRecDepth 100000 in
theorem S_XNodes_makeBoth {O : qOb9} (hO : okO O) {n : Nat} {M0 : PM} {l0 : Nat} {l1 : Int32} {l2 : Int32} {M : PM} {S : qS} (R : Rp O M S) (H : Fm O M0 M) : Sim eI O M0 (F_XNodes_makeBoth n l0 l1 l2 M) (G_XNodes_makeBoth O n l0 l1 l2 S) := by
  unfold F_XNodes_makeBoth G_XNodes_makeBoth
  refine sim_if (fun _ => ?_) (fun _ => ?_)
  exact S_XNodes_makeBoth_8 hO (by assumption) (by assumption)
  refine sim_if (fun _ => ?_) (fun _ => ?_)
  exact S_XNodes_makeBoth_8 hO (by assumption) (by assumption)
  refine sim_if (fun _ => ?_) (fun _ => ?_)
  exact S_XNodes_makeBoth_20 hO (by assumption) (by assumption)
  refine sim_if (fun _ => ?_) (fun _ => ?_)
  exact S_XNodes_makeBoth_20 hO (by assumption) (by assumption)
  refine sim_if (fun _ => ?_) (fun _ => ?_)
  exact sim_retI (by assumption) (by assumption)
  refine sim_bI (fun _ => ?_)
  refine sim_bI (fun _ => ?_)
  refine sim_kO (by assumption) ?_
  refine sim_cI (S_XNodes_put hO (by assumption) (by assumption)) (fun _ _ _ _ _ => ?_)
  exact sim_retI (by assumption) (by assumption)
def G_XNodes_makeChoice_10 (O : qOb9) (n : Nat) (l2 : Int32) (S : qS) : Option (Int32 × qS) :=
  some (l2, S)
set_option maxHeartbeats 4000000 in
set_option maxRecDepth 100000 in
theorem S_XNodes_makeChoice_10 {O : qOb9} (hO : okO O) {n : Nat} {M0 : PM} {l2 : Int32} {M : PM} {S : qS} (R : Rp O M S) (H : Fm O M0 M) : Sim eI O M0 (F_XNodes_makeChoice_10 n l2 M) (G_XNodes_makeChoice_10 O n l2 S) := by
  unfold F_XNodes_makeChoice_10 G_XNodes_makeChoice_10
  exact sim_retI (by assumption) (by assumption)
def G_XNodes_makeChoice (O : qOb9) (n : Nat) (l0 : Nat) (l1 : Int32) (l2 : Int32) (l3 : Int32) (S : qS) : Option (Int32 × qS) :=
  if l1 = (1 : Int32) then
    G_XNodes_makeChoice_10 O n l2 S
  else
    if l2 = l3 then
      G_XNodes_makeChoice_10 O n l2 S
    else
      if l1 = (0 : Int32) then
        some (l3, S)
      else
        hk 3 O l0 (
        yC (G_XNodes_put O n l0 (9 : Int32) l1 l2 l3 S) (fun v5 S4 =>
        some (v5, S4)))
set_option maxHeartbeats 4000000 in
set_option maxRecDepth 100000 in
theorem S_XNodes_makeChoice {O : qOb9} (hO : okO O) {n : Nat} {M0 : PM} {l0 : Nat} {l1 : Int32} {l2 : Int32} {l3 : Int32} {M : PM} {S : qS} (R : Rp O M S) (H : Fm O M0 M) : Sim eI O M0 (F_XNodes_makeChoice n l0 l1 l2 l3 M) (G_XNodes_makeChoice O n l0 l1 l2 l3 S) := by
  unfold F_XNodes_makeChoice G_XNodes_makeChoice
  refine sim_if (fun _ => ?_) (fun _ => ?_)
  exact S_XNodes_makeChoice_10 hO (by assumption) (by assumption)
  refine sim_if (fun _ => ?_) (fun _ => ?_)
  exact S_XNodes_makeChoice_10 hO (by assumption) (by assumption)
  refine sim_if (fun _ => ?_) (fun _ => ?_)
  exact sim_retI (by assumption) (by assumption)
  refine sim_kO (by assumption) ?_
  refine sim_cI (S_XNodes_put hO (by assumption) (by assumption)) (fun _ _ _ _ _ => ?_)
  exact sim_retI (by assumption) (by assumption)
def G_XNodes_makeDifference (O : qOb9) (n : Nat) (l0 : Nat) (l1 : Int32) (l2 : Int32) (S : qS) : Option (Int32 × qS) :=
  if l1 = l2 then
    some ((0 : Int32), S)
  else
    hk 3 O l0 (
    yC (G_XNodes_isWord O n l0 l1 S) (fun v3 S2 =>
    if v3 = (0 : Int32) then
      hk 3 O l0 (
      yC (G_XNodes_makeNot O n l0 l2 S2) (fun v6 S5 =>
      hk 3 O l0 (
      yC (G_XNodes_makeChoice O n l0 l1 v6 l2 S5) (fun v8 S7 =>
      some (v8, S7)))))
    else
      hk 3 O l0 (
      yC (G_XNodes_makeEquality O n l0 l1 l2 S2) (fun v10 S9 =>
      hk 3 O l0 (
      yC (G_XNodes_makeNot O n l0 v10 S9) (fun v12 S11 =>
      some (v12, S11)))))))
set_option maxHeartbeats 4000000 in
set_option maxRecDepth 100000 in
theorem S_XNodes_makeDifference {O : qOb9} (hO : okO O) {n : Nat} {M0 : PM} {l0 : Nat} {l1 : Int32} {l2 : Int32} {M : PM} {S : qS} (R : Rp O M S) (H : Fm O M0 M) : Sim eI O M0 (F_XNodes_makeDifference n l0 l1 l2 M) (G_XNodes_makeDifference O n l0 l1 l2 S) := by
  unfold F_XNodes_makeDifference G_XNodes_makeDifference
  refine sim_if (fun _ => ?_) (fun _ => ?_)
  exact sim_retI (by assumption) (by assumption)
  refine sim_kO (by assumption) ?_
  refine sim_cI (S_XNodes_isWord hO (by assumption) (by assumption)) (fun _ _ _ _ _ => ?_)
  refine sim_if (fun _ => ?_) (fun _ => ?_)
  refine sim_kO (by assumption) ?_
  refine sim_cI (S_XNodes_makeNot hO (by assumption) (by assumption)) (fun _ _ _ _ _ => ?_)
  refine sim_kO (by assumption) ?_
  refine sim_cI (S_XNodes_makeChoice hO (by assumption) (by assumption)) (fun _ _ _ _ _ => ?_)
  exact sim_retI (by assumption) (by assumption)
  refine sim_kO (by assumption) ?_
  refine sim_cI (S_XNodes_makeEquality hO (by assumption) (by assumption)) (fun _ _ _ _ _ => ?_)
  refine sim_kO (by assumption) ?_
  refine sim_cI (S_XNodes_makeNot hO (by assumption) (by assumption)) (fun _ _ _ _ _ => ?_)
  exact sim_retI (by assumption) (by assumption)
def G_XNodes_imageOf_17 (O : qOb9) (n : Nat) (s0 : Int32) (S : qS) : Option (Int32 × qS) :=
  some (s0, S)
set_option maxHeartbeats 4000000 in
set_option maxRecDepth 100000 in
theorem S_XNodes_imageOf_17 {O : qOb9} (hO : okO O) {n : Nat} {M0 : PM} {s0 : Int32} {M : PM} {S : qS} (R : Rp O M S) (H : Fm O M0 M) : Sim eI O M0 (F_XNodes_imageOf_17 n s0 M) (G_XNodes_imageOf_17 O n s0 S) := by
  unfold F_XNodes_imageOf_17 G_XNodes_imageOf_17
  exact sim_retI (by assumption) (by assumption)
def G_XNodes_imageOf_16 (O : qOb9) (n : Nat) (S : qS) : Option (Int32 × qS) :=
  G_XNodes_imageOf_17 O n (-1 : Int32) S
set_option maxHeartbeats 4000000 in
set_option maxRecDepth 100000 in
theorem S_XNodes_imageOf_16 {O : qOb9} (hO : okO O) {n : Nat} {M0 : PM} {M : PM} {S : qS} (R : Rp O M S) (H : Fm O M0 M) : Sim eI O M0 (F_XNodes_imageOf_16 n M) (G_XNodes_imageOf_16 O n S) := by
  unfold F_XNodes_imageOf_16 G_XNodes_imageOf_16
  exact S_XNodes_imageOf_17 hO (by assumption) (by assumption)
def G_XNodes_imageOf (O : qOb9) (n : Nat) (l0 : Nat × Nat) (l1 : Int32) (S : qS) : Option (Int32 × qS) :=
  if l1 < (0 : Int32) then
    G_XNodes_imageOf_16 O n S
  else
    hn O l0 (fun v2 =>
    if v2 ≤ l1 then
      G_XNodes_imageOf_16 O n S
    else
      hl 0 O S l0 l1 (fun v4 =>
      G_XNodes_imageOf_17 O n v4 S))
set_option maxHeartbeats 4000000 in
set_option maxRecDepth 100000 in
theorem S_XNodes_imageOf {O : qOb9} (hO : okO O) {n : Nat} {M0 : PM} {l0 : Nat × Nat} {l1 : Int32} {M : PM} {S : qS} (R : Rp O M S) (H : Fm O M0 M) : Sim eI O M0 (F_XNodes_imageOf n (oA O l0.1 l0.2) l1 M) (G_XNodes_imageOf O n l0 l1 S) := by
  unfold F_XNodes_imageOf G_XNodes_imageOf
  refine sim_if (fun _ => ?_) (fun _ => ?_)
  exact S_XNodes_imageOf_16 hO (by assumption) (by assumption)
  refine sim_aL (by assumption) (fun _ => ?_)
  refine sim_if (fun _ => ?_) (fun _ => ?_)
  exact S_XNodes_imageOf_16 hO (by assumption) (by assumption)
  refine sim_lI (by assumption) (fun _ => ?_)
  exact S_XNodes_imageOf_17 hO (by assumption) (by assumption)
def G_XNodes_remakeAll_170 (O : qOb9) (n : Nat) (S : qS) : Option (Unit × qS) :=
  some ((), S)
set_option maxHeartbeats 4000000 in
set_option maxRecDepth 100000 in
theorem S_XNodes_remakeAll_170 {O : qOb9} (hO : okO O) {n : Nat} {M0 : PM} {M : PM} {S : qS} (R : Rp O M S) (H : Fm O M0 M) : Sim eV O M0 (F_XNodes_remakeAll_170 n M) (G_XNodes_remakeAll_170 O n S) := by
  unfold F_XNodes_remakeAll_170 G_XNodes_remakeAll_170
  exact sim_retV (by assumption) (by assumption)
def G_XNodes_remakeAll_164 (O : qOb9) (n : Nat) (rec2 : Nat → Nat → (Nat × Nat) → Int32 → qS → Option (Unit × qS)) (l0 : Nat) (l1 : Nat) (l2 : Nat × Nat) (l3 : Int32) (S : qS) : Option (Unit × qS) :=
  hB (l3 + (1 : Int32)) (fun v1 =>
  rec2 l0 l1 l2 v1 S)
set_option maxHeartbeats 4000000 in
set_option maxRecDepth 100000 in
theorem S_XNodes_remakeAll_164 {O : qOb9} (hO : okO O) {n : Nat} {M0 : PM} {rec2 : Nat → Nat → Nat → Int32 → PM → qO} {grec2 : Nat → Nat → (Nat × Nat) → Int32 → qS → Option (Unit × qS)} (hrec2 : ∀ (l0 : Nat) (l1 : Nat) (l2 : Nat × Nat) (l3 : Int32) (M : PM) (S : qS), Rp O M S → Fm O M0 M → Sim eV O M0 (rec2 l0 l1 (oA O l2.1 l2.2) l3 M) (grec2 l0 l1 l2 l3 S)) {l0 : Nat} {l1 : Nat} {l2 : Nat × Nat} {l3 : Int32} {M : PM} {S : qS} (R : Rp O M S) (H : Fm O M0 M) : Sim eV O M0 (F_XNodes_remakeAll_164 n rec2 l0 l1 (oA O l2.1 l2.2) l3 M) (G_XNodes_remakeAll_164 O n grec2 l0 l1 l2 l3 S) := by
  unfold F_XNodes_remakeAll_164 G_XNodes_remakeAll_164
  refine sim_bI (fun _ => ?_)
  exact hrec2 _ _ _ _ _ _ (by assumption) (by assumption)
def G_XNodes_remakeAll_2 (O : qOb9) (n : Nat) : Nat → Nat → Nat → (Nat × Nat) → Int32 → qS → Option (Unit × qS)
  | 0, _, _, _, _, _ => none
  | f + 1, l0, l1, l2, l3, S =>
    hI 3 O S l1 7 (fun v1 =>
    if v1 ≤ l3 then
      G_XNodes_remakeAll_170 O n S
    else
      hn O l2 (fun v3 =>
      if v3 ≤ l3 then
        G_XNodes_remakeAll_170 O n S
      else
        hA 3 O l1 1 (fun v5 =>
        hl 0 O S v5 l3 (fun v6 =>
        yC (G_XNodes_imageOf O n l2 v6 S) (fun v8 S7 =>
        hA 3 O l1 2 (fun v9 =>
        hl 0 O S7 v9 l3 (fun v10 =>
        yC (G_XNodes_imageOf O n l2 v10 S7) (fun v12 S11 =>
        hA 3 O l1 0 (fun v13 =>
        hl 0 O S11 v13 l3 (fun v14 =>
        if v14 = (5 : Int32) then
          hA 3 O l1 3 (fun v16 =>
          hl 0 O S11 v16 l3 (fun v17 =>
          hk 3 O l0 (
          yC (G_XNodes_makeApplication O n l0 v17 v8 v12 S11) (fun v19 S18 =>
          hw 0 O S18 l2 l3 v19 (fun S20 =>
          G_XNodes_remakeAll_164 O n (G_XNodes_remakeAll_2 O n f) l0 l1 l2 l3 S20)))))
        else
        if v14 = (6 : Int32) then
          hk 3 O l0 (
          yC (G_XNodes_makeEquality O n l0 v8 v12 S11) (fun v23 S22 =>
          hw 0 O S22 l2 l3 v23 (fun S24 =>
          G_XNodes_remakeAll_164 O n (G_XNodes_remakeAll_2 O n f) l0 l1 l2 l3 S24)))
        else
        if v14 = (7 : Int32) then
          hk 3 O l0 (
          yC (G_XNodes_makeNot O n l0 v8 S11) (fun v27 S26 =>
          hw 0 O S26 l2 l3 v27 (fun S28 =>
          G_XNodes_remakeAll_164 O n (G_XNodes_remakeAll_2 O n f) l0 l1 l2 l3 S28)))
        else
        if v14 = (8 : Int32) then
          hk 3 O l0 (
          yC (G_XNodes_makeBoth O n l0 v8 v12 S11) (fun v31 S30 =>
          hw 0 O S30 l2 l3 v31 (fun S32 =>
          G_XNodes_remakeAll_164 O n (G_XNodes_remakeAll_2 O n f) l0 l1 l2 l3 S32)))
        else
        if v14 = (9 : Int32) then
          hA 3 O l1 3 (fun v34 =>
          hl 0 O S11 v34 l3 (fun v35 =>
          yC (G_XNodes_imageOf O n l2 v35 S11) (fun v37 S36 =>
          hk 3 O l0 (
          yC (G_XNodes_makeChoice O n l0 v8 v12 v37 S36) (fun v39 S38 =>
          hw 0 O S38 l2 l3 v39 (fun S40 =>
          G_XNodes_remakeAll_164 O n (G_XNodes_remakeAll_2 O n f) l0 l1 l2 l3 S40))))))
        else
          G_XNodes_remakeAll_164 O n (G_XNodes_remakeAll_2 O n f) l0 l1 l2 l3 S11))))))))))
set_option maxHeartbeats 4000000 in
set_option maxRecDepth 100000 in
theorem S_XNodes_remakeAll_2 {O : qOb9} (hO : okO O) {n : Nat} {M0 : PM} : ∀ (f : Nat) (l0 : Nat) (l1 : Nat) (l2 : Nat × Nat) (l3 : Int32) (M : PM) (S : qS), Rp O M S → Fm O M0 M → Sim eV O M0 (F_XNodes_remakeAll_2 n f l0 l1 (oA O l2.1 l2.2) l3 M) (G_XNodes_remakeAll_2 O n f l0 l1 l2 l3 S) := by
  intro f
  induction f with
  | zero => intro l0 l1 l2 l3 M S _ _; rw [G_XNodes_remakeAll_2]; exact sim_none
  | succ f ih =>
    intro l0 l1 l2 l3 M S R H
    rw [F_XNodes_remakeAll_2, G_XNodes_remakeAll_2]
    refine sim_gI (by assumption) (fun _ => ?_)
    refine sim_if (fun _ => ?_) (fun _ => ?_)
    exact S_XNodes_remakeAll_170 hO (by assumption) (by assumption)
    refine sim_aL (by assumption) (fun _ => ?_)
    refine sim_if (fun _ => ?_) (fun _ => ?_)
    exact S_XNodes_remakeAll_170 hO (by assumption) (by assumption)
    refine sim_gA (by assumption) (fun _ => ?_)
    refine sim_lI (by assumption) (fun _ => ?_)
    refine sim_cI (S_XNodes_imageOf hO (by assumption) (by assumption)) (fun _ _ _ _ _ => ?_)
    refine sim_gA (by assumption) (fun _ => ?_)
    refine sim_lI (by assumption) (fun _ => ?_)
    refine sim_cI (S_XNodes_imageOf hO (by assumption) (by assumption)) (fun _ _ _ _ _ => ?_)
    refine sim_gA (by assumption) (fun _ => ?_)
    refine sim_lI (by assumption) (fun _ => ?_)
    refine sim_if (fun _ => ?_) (fun _ => ?_)
    refine sim_gA (by assumption) (fun _ => ?_)
    refine sim_lI (by assumption) (fun _ => ?_)
    refine sim_kO (by assumption) ?_
    refine sim_cI (S_XNodes_makeApplication hO (by assumption) (by assumption)) (fun _ _ _ _ _ => ?_)
    refine sim_wI hO (by assumption) (by assumption) (fun _ _ _ _ => ?_)
    exact S_XNodes_remakeAll_164 hO ih (by assumption) (by assumption)
    refine sim_if (fun _ => ?_) (fun _ => ?_)
    refine sim_kO (by assumption) ?_
    refine sim_cI (S_XNodes_makeEquality hO (by assumption) (by assumption)) (fun _ _ _ _ _ => ?_)
    refine sim_wI hO (by assumption) (by assumption) (fun _ _ _ _ => ?_)
    exact S_XNodes_remakeAll_164 hO ih (by assumption) (by assumption)
    refine sim_if (fun _ => ?_) (fun _ => ?_)
    refine sim_kO (by assumption) ?_
    refine sim_cI (S_XNodes_makeNot hO (by assumption) (by assumption)) (fun _ _ _ _ _ => ?_)
    refine sim_wI hO (by assumption) (by assumption) (fun _ _ _ _ => ?_)
    exact S_XNodes_remakeAll_164 hO ih (by assumption) (by assumption)
    refine sim_if (fun _ => ?_) (fun _ => ?_)
    refine sim_kO (by assumption) ?_
    refine sim_cI (S_XNodes_makeBoth hO (by assumption) (by assumption)) (fun _ _ _ _ _ => ?_)
    refine sim_wI hO (by assumption) (by assumption) (fun _ _ _ _ => ?_)
    exact S_XNodes_remakeAll_164 hO ih (by assumption) (by assumption)
    refine sim_if (fun _ => ?_) (fun _ => ?_)
    refine sim_gA (by assumption) (fun _ => ?_)
    refine sim_lI (by assumption) (fun _ => ?_)
    refine sim_cI (S_XNodes_imageOf hO (by assumption) (by assumption)) (fun _ _ _ _ _ => ?_)
    refine sim_kO (by assumption) ?_
    refine sim_cI (S_XNodes_makeChoice hO (by assumption) (by assumption)) (fun _ _ _ _ _ => ?_)
    refine sim_wI hO (by assumption) (by assumption) (fun _ _ _ _ => ?_)
    exact S_XNodes_remakeAll_164 hO ih (by assumption) (by assumption)
    exact S_XNodes_remakeAll_164 hO ih (by assumption) (by assumption)
def G_XNodes_remakeAll (O : qOb9) (n : Nat) (l0 : Nat) (l1 : Nat) (l2 : Nat × Nat) (S : qS) : Option (Unit × qS) :=
  G_XNodes_remakeAll_2 O n n l0 l1 l2 (0 : Int32) S
set_option maxHeartbeats 4000000 in
set_option maxRecDepth 100000 in
theorem S_XNodes_remakeAll {O : qOb9} (hO : okO O) {n : Nat} {M0 : PM} {l0 : Nat} {l1 : Nat} {l2 : Nat × Nat} {M : PM} {S : qS} (R : Rp O M S) (H : Fm O M0 M) : Sim eV O M0 (F_XNodes_remakeAll n l0 l1 (oA O l2.1 l2.2) M) (G_XNodes_remakeAll O n l0 l1 l2 S) := by
  unfold F_XNodes_remakeAll G_XNodes_remakeAll
  exact S_XNodes_remakeAll_2 hO _ _ _ _ _ _ _ (by assumption) (by assumption)
def G_XOutcome_begin (O : qOb9) (n : Nat) (l0 : Nat) (l1 : Int32) (l2 : Int32) (S : qS) : Option (Unit × qS) :=
  hA 4 O l0 0 (fun v1 =>
  yV (G_JArrays_fill O n v1 (0 : Int32) S) (fun S2 =>
  hP 4 O S2 l0 2 (l1) (fun S3 =>
  hP 4 O S3 l0 3 (l2) (fun S4 =>
  hP 4 O S4 l0 5 ((0 : Int32)) (fun S5 =>
  hP 4 O S5 l0 6 ((0 : Int32)) (fun S6 =>
  some ((), S6)))))))
set_option maxHeartbeats 4000000 in
set_option maxRecDepth 100000 in
theorem S_XOutcome_begin {O : qOb9} (hO : okO O) {n : Nat} {M0 : PM} {l0 : Nat} {l1 : Int32} {l2 : Int32} {M : PM} {S : qS} (R : Rp O M S) (H : Fm O M0 M) : Sim eV O M0 (F_XOutcome_begin n l0 l1 l2 M) (G_XOutcome_begin O n l0 l1 l2 S) := by
  unfold F_XOutcome_begin G_XOutcome_begin
  refine sim_gA (by assumption) (fun _ => ?_)
  refine sim_cV (S_JArrays_fill hO (by assumption) (by assumption)) (fun _ _ _ _ => ?_)
  refine sim_pF (by assumption) (by assumption) (fun _ _ _ _ => ?_)
  refine sim_pF (by assumption) (by assumption) (fun _ _ _ _ => ?_)
  refine sim_pF (by assumption) (by assumption) (fun _ _ _ _ => ?_)
  refine sim_pF (by assumption) (by assumption) (fun _ _ _ _ => ?_)
  exact sim_retV (by assumption) (by assumption)
def G_XOutcome_isTooLarge_23 (O : qOb9) (n : Nat) (s0 : Int32) (S : qS) : Option (Int32 × qS) :=
  hz s0 S
set_option maxHeartbeats 4000000 in
set_option maxRecDepth 100000 in
theorem S_XOutcome_isTooLarge_23 {O : qOb9} (hO : okO O) {n : Nat} {M0 : PM} {s0 : Int32} {M : PM} {S : qS} (R : Rp O M S) (H : Fm O M0 M) : Sim eI O M0 (F_XOutcome_isTooLarge_23 n s0 M) (G_XOutcome_isTooLarge_23 O n s0 S) := by
  unfold F_XOutcome_isTooLarge_23 G_XOutcome_isTooLarge_23
  exact sim_rZ (by assumption) (by assumption)
def G_XOutcome_isTooLarge_18 (O : qOb9) (n : Nat) (S : qS) : Option (Int32 × qS) :=
  G_XOutcome_isTooLarge_23 O n (1 : Int32) S
set_option maxHeartbeats 4000000 in
set_option maxRecDepth 100000 in
theorem S_XOutcome_isTooLarge_18 {O : qOb9} (hO : okO O) {n : Nat} {M0 : PM} {M : PM} {S : qS} (R : Rp O M S) (H : Fm O M0 M) : Sim eI O M0 (F_XOutcome_isTooLarge_18 n M) (G_XOutcome_isTooLarge_18 O n S) := by
  unfold F_XOutcome_isTooLarge_18 G_XOutcome_isTooLarge_18
  exact S_XOutcome_isTooLarge_23 hO (by assumption) (by assumption)
def G_XOutcome_isTooLarge (O : qOb9) (n : Nat) (l0 : Nat) (S : qS) : Option (Int32 × qS) :=
  hI 4 O S l0 5 (fun v1 =>
  if (7 : Int32) < v1 then
    G_XOutcome_isTooLarge_18 O n S
  else
    hI 4 O S l0 6 (fun v3 =>
    if v3 ≤ (6 : Int32) then
      G_XOutcome_isTooLarge_23 O n (0 : Int32) S
    else
      G_XOutcome_isTooLarge_18 O n S))
set_option maxHeartbeats 4000000 in
set_option maxRecDepth 100000 in
theorem S_XOutcome_isTooLarge {O : qOb9} (hO : okO O) {n : Nat} {M0 : PM} {l0 : Nat} {M : PM} {S : qS} (R : Rp O M S) (H : Fm O M0 M) : Sim eI O M0 (F_XOutcome_isTooLarge n l0 M) (G_XOutcome_isTooLarge O n l0 S) := by
  unfold F_XOutcome_isTooLarge G_XOutcome_isTooLarge
  refine sim_gI (by assumption) (fun _ => ?_)
  refine sim_if (fun _ => ?_) (fun _ => ?_)
  exact S_XOutcome_isTooLarge_18 hO (by assumption) (by assumption)
  refine sim_gI (by assumption) (fun _ => ?_)
  refine sim_if (fun _ => ?_) (fun _ => ?_)
  exact S_XOutcome_isTooLarge_23 hO (by assumption) (by assumption)
  exact S_XOutcome_isTooLarge_18 hO (by assumption) (by assumption)
def G_XPlanes_truthOf (O : qOb9) (n : Nat) (l0 : Nat) (l1 : Int32) (S : qS) : Option (Int64 × qS) :=
  hA 5 O l0 1 (fun v1 =>
  hlL O S v1 l1 (fun v2 =>
  some (v2, S)))
set_option maxHeartbeats 4000000 in
set_option maxRecDepth 100000 in
theorem S_XPlanes_truthOf {O : qOb9} (hO : okO O) {n : Nat} {M0 : PM} {l0 : Nat} {l1 : Int32} {M : PM} {S : qS} (R : Rp O M S) (H : Fm O M0 M) : Sim eL O M0 (F_XPlanes_truthOf n l0 l1 M) (G_XPlanes_truthOf O n l0 l1 S) := by
  unfold F_XPlanes_truthOf G_XPlanes_truthOf
  refine sim_gA (by assumption) (fun _ => ?_)
  refine sim_lL (by assumption) (fun _ => ?_)
  exact sim_retL (by assumption) (by assumption)
def G_XPlanes_setTruth (O : qOb9) (n : Nat) (l0 : Nat) (l1 : Int32) (l2 : Int64) (S : qS) : Option (Unit × qS) :=
  hA 5 O l0 1 (fun v1 =>
  hwL O S v1 l1 l2 (fun S2 =>
  some ((), S2)))
set_option maxHeartbeats 4000000 in
set_option maxRecDepth 100000 in
theorem S_XPlanes_setTruth {O : qOb9} (hO : okO O) {n : Nat} {M0 : PM} {l0 : Nat} {l1 : Int32} {l2 : Int64} {M : PM} {S : qS} (R : Rp O M S) (H : Fm O M0 M) : Sim eV O M0 (F_XPlanes_setTruth n l0 l1 l2 M) (G_XPlanes_setTruth O n l0 l1 l2 S) := by
  unfold F_XPlanes_setTruth G_XPlanes_setTruth
  refine sim_gA (by assumption) (fun _ => ?_)
  refine sim_wL hO (by assumption) (by assumption) (fun _ _ _ _ => ?_)
  exact sim_retV (by assumption) (by assumption)
def G_XPlanes_setWord (O : qOb9) (n : Nat) (l0 : Nat) (l1 : Int32) (l2 : Int32) (S : qS) : Option (Unit × qS) :=
  hA 5 O l0 1 (fun v1 =>
  hwL O S v1 l1 (-((l2 &&& (1 : Int32)).toInt64)) (fun S2 =>
  hA 5 O l0 2 (fun v3 =>
  hwL O S2 v3 l1 (-(((l2 >>> ((1 : Int32) &&& 31)) &&& (1 : Int32)).toInt64)) (fun S4 =>
  hA 5 O l0 3 (fun v5 =>
  hwL O S4 v5 l1 (-(((l2 >>> ((2 : Int32) &&& 31)) &&& (1 : Int32)).toInt64)) (fun S6 =>
  some ((), S6)))))))
set_option maxHeartbeats 4000000 in
set_option maxRecDepth 100000 in
theorem S_XPlanes_setWord {O : qOb9} (hO : okO O) {n : Nat} {M0 : PM} {l0 : Nat} {l1 : Int32} {l2 : Int32} {M : PM} {S : qS} (R : Rp O M S) (H : Fm O M0 M) : Sim eV O M0 (F_XPlanes_setWord n l0 l1 l2 M) (G_XPlanes_setWord O n l0 l1 l2 S) := by
  unfold F_XPlanes_setWord G_XPlanes_setWord
  refine sim_gA (by assumption) (fun _ => ?_)
  refine sim_wL hO (by assumption) (by assumption) (fun _ _ _ _ => ?_)
  refine sim_gA (by assumption) (fun _ => ?_)
  refine sim_wL hO (by assumption) (by assumption) (fun _ _ _ _ => ?_)
  refine sim_gA (by assumption) (fun _ => ?_)
  refine sim_wL hO (by assumption) (by assumption) (fun _ _ _ _ => ?_)
  exact sim_retV (by assumption) (by assumption)
def G_XPlanes_same (O : qOb9) (n : Nat) (l0 : Nat) (l1 : Int32) (l2 : Int32) (S : qS) : Option (Int64 × qS) :=
  hA 5 O l0 1 (fun v1 =>
  hlL O S v1 l1 (fun v2 =>
  hA 5 O l0 1 (fun v3 =>
  hlL O S v3 l2 (fun v4 =>
  hA 5 O l0 2 (fun v5 =>
  hlL O S v5 l1 (fun v6 =>
  hA 5 O l0 2 (fun v7 =>
  hlL O S v7 l2 (fun v8 =>
  hA 5 O l0 3 (fun v9 =>
  hlL O S v9 l1 (fun v10 =>
  hA 5 O l0 3 (fun v11 =>
  hlL O S v11 l2 (fun v12 =>
  some (((((v2 ^^^ v4) ||| (v6 ^^^ v8)) ||| (v10 ^^^ v12)) ^^^ (-1 : Int64)), S)))))))))))))
set_option maxHeartbeats 4000000 in
set_option maxRecDepth 100000 in
theorem S_XPlanes_same {O : qOb9} (hO : okO O) {n : Nat} {M0 : PM} {l0 : Nat} {l1 : Int32} {l2 : Int32} {M : PM} {S : qS} (R : Rp O M S) (H : Fm O M0 M) : Sim eL O M0 (F_XPlanes_same n l0 l1 l2 M) (G_XPlanes_same O n l0 l1 l2 S) := by
  unfold F_XPlanes_same G_XPlanes_same
  refine sim_gA (by assumption) (fun _ => ?_)
  refine sim_lL (by assumption) (fun _ => ?_)
  refine sim_gA (by assumption) (fun _ => ?_)
  refine sim_lL (by assumption) (fun _ => ?_)
  refine sim_gA (by assumption) (fun _ => ?_)
  refine sim_lL (by assumption) (fun _ => ?_)
  refine sim_gA (by assumption) (fun _ => ?_)
  refine sim_lL (by assumption) (fun _ => ?_)
  refine sim_gA (by assumption) (fun _ => ?_)
  refine sim_lL (by assumption) (fun _ => ?_)
  refine sim_gA (by assumption) (fun _ => ?_)
  refine sim_lL (by assumption) (fun _ => ?_)
  exact sim_retL (by assumption) (by assumption)
def G_XPlanes_choose_99 (O : qOb9) (n : Nat) (S : qS) : Option (Unit × qS) :=
  some ((), S)
set_option maxHeartbeats 4000000 in
set_option maxRecDepth 100000 in
theorem S_XPlanes_choose_99 {O : qOb9} (hO : okO O) {n : Nat} {M0 : PM} {M : PM} {S : qS} (R : Rp O M S) (H : Fm O M0 M) : Sim eV O M0 (F_XPlanes_choose_99 n M) (G_XPlanes_choose_99 O n S) := by
  unfold F_XPlanes_choose_99 G_XPlanes_choose_99
  exact sim_retV (by assumption) (by assumption)
def G_XPlanes_choose (O : qOb9) (n : Nat) (l0 : Nat) (l1 : Int32) (l2 : Int64) (l4 : Int32) (l5 : Int32) (S : qS) : Option (Unit × qS) :=
  hA 5 O l0 1 (fun v1 =>
  hA 5 O l0 1 (fun v2 =>
  hlL O S v2 l4 (fun v3 =>
  hA 5 O l0 1 (fun v4 =>
  hlL O S v4 l5 (fun v5 =>
  hwL O S v1 l1 ((l2 &&& v3) ||| ((l2 ^^^ (-1 : Int64)) &&& v5)) (fun S6 =>
  hO 5 O l0 0 (fun v7 =>
  hA 3 O v7 4 (fun v8 =>
  hl 1 O S6 v8 l1 (fun v9 =>
  if v9 = (0 : Int32) then
    G_XPlanes_choose_99 O n S6
  else
    hA 5 O l0 2 (fun v11 =>
    hA 5 O l0 2 (fun v12 =>
    hlL O S6 v12 l4 (fun v13 =>
    hA 5 O l0 2 (fun v14 =>
    hlL O S6 v14 l5 (fun v15 =>
    hwL O S6 v11 l1 ((l2 &&& v13) ||| ((l2 ^^^ (-1 : Int64)) &&& v15)) (fun S16 =>
    hA 5 O l0 3 (fun v17 =>
    hA 5 O l0 3 (fun v18 =>
    hlL O S16 v18 l4 (fun v19 =>
    hA 5 O l0 3 (fun v20 =>
    hlL O S16 v20 l5 (fun v21 =>
    hwL O S16 v17 l1 ((l2 &&& v19) ||| ((l2 ^^^ (-1 : Int64)) &&& v21)) (fun S22 =>
    G_XPlanes_choose_99 O n S22)))))))))))))))))))))
set_option maxHeartbeats 4000000 in
set_option maxRecDepth 100000 in
theorem S_XPlanes_choose {O : qOb9} (hO : okO O) {n : Nat} {M0 : PM} {l0 : Nat} {l1 : Int32} {l2 : Int64} {l4 : Int32} {l5 : Int32} {M : PM} {S : qS} (R : Rp O M S) (H : Fm O M0 M) : Sim eV O M0 (F_XPlanes_choose n l0 l1 l2 l4 l5 M) (G_XPlanes_choose O n l0 l1 l2 l4 l5 S) := by
  unfold F_XPlanes_choose G_XPlanes_choose
  refine sim_gA (by assumption) (fun _ => ?_)
  refine sim_gA (by assumption) (fun _ => ?_)
  refine sim_lL (by assumption) (fun _ => ?_)
  refine sim_gA (by assumption) (fun _ => ?_)
  refine sim_lL (by assumption) (fun _ => ?_)
  refine sim_wL hO (by assumption) (by assumption) (fun _ _ _ _ => ?_)
  refine sim_gO (by assumption) (fun _ => ?_)
  refine sim_gA (by assumption) (fun _ => ?_)
  refine sim_lZ (by assumption) (fun _ => ?_)
  refine sim_if (fun _ => ?_) (fun _ => ?_)
  exact S_XPlanes_choose_99 hO (by assumption) (by assumption)
  refine sim_gA (by assumption) (fun _ => ?_)
  refine sim_gA (by assumption) (fun _ => ?_)
  refine sim_lL (by assumption) (fun _ => ?_)
  refine sim_gA (by assumption) (fun _ => ?_)
  refine sim_lL (by assumption) (fun _ => ?_)
  refine sim_wL hO (by assumption) (by assumption) (fun _ _ _ _ => ?_)
  refine sim_gA (by assumption) (fun _ => ?_)
  refine sim_gA (by assumption) (fun _ => ?_)
  refine sim_lL (by assumption) (fun _ => ?_)
  refine sim_gA (by assumption) (fun _ => ?_)
  refine sim_lL (by assumption) (fun _ => ?_)
  refine sim_wL hO (by assumption) (by assumption) (fun _ _ _ _ => ?_)
  exact S_XPlanes_choose_99 hO (by assumption) (by assumption)
def G_XPlanes_reckon_140 (O : qOb9) (n : Nat) (S : qS) : Option (Unit × qS) :=
  some ((), S)
set_option maxHeartbeats 4000000 in
set_option maxRecDepth 100000 in
theorem S_XPlanes_reckon_140 {O : qOb9} (hO : okO O) {n : Nat} {M0 : PM} {M : PM} {S : qS} (R : Rp O M S) (H : Fm O M0 M) : Sim eV O M0 (F_XPlanes_reckon_140 n M) (G_XPlanes_reckon_140 O n S) := by
  unfold F_XPlanes_reckon_140 G_XPlanes_reckon_140
  exact sim_retV (by assumption) (by assumption)
def G_XPlanes_reckon (O : qOb9) (n : Nat) (l0 : Nat) (l1 : Int32) (S : qS) : Option (Unit × qS) :=
  hO 5 O l0 0 (fun v1 =>
  hA 3 O v1 1 (fun v2 =>
  hl 0 O S v2 l1 (fun v3 =>
  hO 5 O l0 0 (fun v4 =>
  hA 3 O v4 2 (fun v5 =>
  hl 0 O S v5 l1 (fun v6 =>
  hO 5 O l0 0 (fun v7 =>
  hA 3 O v7 0 (fun v8 =>
  hl 0 O S v8 l1 (fun v9 =>
  if v9 = (6 : Int32) then
    hA 5 O l0 1 (fun v11 =>
    hk 5 O l0 (
    yC (G_XPlanes_same O n l0 v3 v6 S) (fun v13 S12 =>
    hwL O S12 v11 l1 v13 (fun S14 =>
    G_XPlanes_reckon_140 O n S14))))
  else
  if v9 = (7 : Int32) then
    hA 5 O l0 1 (fun v16 =>
    hA 5 O l0 1 (fun v17 =>
    hlL O S v17 v3 (fun v18 =>
    hwL O S v16 l1 (v18 ^^^ (-1 : Int64)) (fun S19 =>
    G_XPlanes_reckon_140 O n S19))))
  else
  if v9 = (8 : Int32) then
    hA 5 O l0 1 (fun v21 =>
    hA 5 O l0 1 (fun v22 =>
    hlL O S v22 v3 (fun v23 =>
    hA 5 O l0 1 (fun v24 =>
    hlL O S v24 v6 (fun v25 =>
    hwL O S v21 l1 (v23 &&& v25) (fun S26 =>
    G_XPlanes_reckon_140 O n S26))))))
  else
  if v9 = (9 : Int32) then
    hA 5 O l0 1 (fun v28 =>
    hlL O S v28 v3 (fun v29 =>
    hO 5 O l0 0 (fun v30 =>
    hA 3 O v30 3 (fun v31 =>
    hl 0 O S v31 l1 (fun v32 =>
    hk 5 O l0 (
    yV (G_XPlanes_choose O n l0 l1 v29 v6 v32 S) (fun S33 =>
    G_XPlanes_reckon_140 O n S33)))))))
  else
    G_XPlanes_reckon_140 O n S)))))))))
set_option maxHeartbeats 4000000 in
set_option maxRecDepth 100000 in
theorem S_XPlanes_reckon {O : qOb9} (hO : okO O) {n : Nat} {M0 : PM} {l0 : Nat} {l1 : Int32} {M : PM} {S : qS} (R : Rp O M S) (H : Fm O M0 M) : Sim eV O M0 (F_XPlanes_reckon n l0 l1 M) (G_XPlanes_reckon O n l0 l1 S) := by
  unfold F_XPlanes_reckon G_XPlanes_reckon
  refine sim_gO (by assumption) (fun _ => ?_)
  refine sim_gA (by assumption) (fun _ => ?_)
  refine sim_lI (by assumption) (fun _ => ?_)
  refine sim_gO (by assumption) (fun _ => ?_)
  refine sim_gA (by assumption) (fun _ => ?_)
  refine sim_lI (by assumption) (fun _ => ?_)
  refine sim_gO (by assumption) (fun _ => ?_)
  refine sim_gA (by assumption) (fun _ => ?_)
  refine sim_lI (by assumption) (fun _ => ?_)
  refine sim_if (fun _ => ?_) (fun _ => ?_)
  refine sim_gA (by assumption) (fun _ => ?_)
  refine sim_kO (by assumption) ?_
  refine sim_cL (S_XPlanes_same hO (by assumption) (by assumption)) (fun _ _ _ _ _ => ?_)
  refine sim_wL hO (by assumption) (by assumption) (fun _ _ _ _ => ?_)
  exact S_XPlanes_reckon_140 hO (by assumption) (by assumption)
  refine sim_if (fun _ => ?_) (fun _ => ?_)
  refine sim_gA (by assumption) (fun _ => ?_)
  refine sim_gA (by assumption) (fun _ => ?_)
  refine sim_lL (by assumption) (fun _ => ?_)
  refine sim_wL hO (by assumption) (by assumption) (fun _ _ _ _ => ?_)
  exact S_XPlanes_reckon_140 hO (by assumption) (by assumption)
  refine sim_if (fun _ => ?_) (fun _ => ?_)
  refine sim_gA (by assumption) (fun _ => ?_)
  refine sim_gA (by assumption) (fun _ => ?_)
  refine sim_lL (by assumption) (fun _ => ?_)
  refine sim_gA (by assumption) (fun _ => ?_)
  refine sim_lL (by assumption) (fun _ => ?_)
  refine sim_wL hO (by assumption) (by assumption) (fun _ _ _ _ => ?_)
  exact S_XPlanes_reckon_140 hO (by assumption) (by assumption)
  refine sim_if (fun _ => ?_) (fun _ => ?_)
  refine sim_gA (by assumption) (fun _ => ?_)
  refine sim_lL (by assumption) (fun _ => ?_)
  refine sim_gO (by assumption) (fun _ => ?_)
  refine sim_gA (by assumption) (fun _ => ?_)
  refine sim_lI (by assumption) (fun _ => ?_)
  refine sim_kO (by assumption) ?_
  refine sim_cV (S_XPlanes_choose hO (by assumption) (by assumption)) (fun _ _ _ _ => ?_)
  exact S_XPlanes_reckon_140 hO (by assumption) (by assumption)
  exact S_XPlanes_reckon_140 hO (by assumption) (by assumption)
def G_XQuestion_begin (O : qOb9) (n : Nat) (l0 : Nat) (S : qS) : Option (Unit × qS) :=
  hP 7 O S l0 3 ((0 : Int32)) (fun S1 =>
  hP 7 O S1 l0 4 ((0 : Int32)) (fun S2 =>
  some ((), S2)))
set_option maxHeartbeats 4000000 in
set_option maxRecDepth 100000 in
theorem S_XQuestion_begin {O : qOb9} (hO : okO O) {n : Nat} {M0 : PM} {l0 : Nat} {M : PM} {S : qS} (R : Rp O M S) (H : Fm O M0 M) : Sim eV O M0 (F_XQuestion_begin n l0 M) (G_XQuestion_begin O n l0 S) := by
  unfold F_XQuestion_begin G_XQuestion_begin
  refine sim_pF (by assumption) (by assumption) (fun _ _ _ _ => ?_)
  refine sim_pF (by assumption) (by assumption) (fun _ _ _ _ => ?_)
  exact sim_retV (by assumption) (by assumption)
def G_XProver_putIn_24 (O : qOb9) (n : Nat) : Nat → Nat → Nat → (Nat × Nat) → Int32 → qS → Option (Unit × qS)
  | 0, _, _, _, _, _ => none
  | f + 1, l0, l1, l2, l4, S =>
    hI 2 O S l1 6 (fun v1 =>
    if v1 ≤ l4 then
      some ((), S)
    else
      hA 6 O l0 4 (fun v3 =>
      hA 2 O l1 1 (fun v4 =>
      hl 0 O S v4 l4 (fun v5 =>
      hl 0 O S l2 l4 (fun v6 =>
      hw 0 O S v3 v5 v6 (fun S7 =>
      hB (l4 + (1 : Int32)) (fun v8 =>
      (G_XProver_putIn_24 O n f) l0 l1 l2 v8 S7)))))))
set_option maxHeartbeats 4000000 in
set_option maxRecDepth 100000 in
theorem S_XProver_putIn_24 {O : qOb9} (hO : okO O) {n : Nat} {M0 : PM} : ∀ (f : Nat) (l0 : Nat) (l1 : Nat) (l2 : Nat × Nat) (l4 : Int32) (M : PM) (S : qS), Rp O M S → Fm O M0 M → Sim eV O M0 (F_XProver_putIn_24 n f l0 l1 (oA O l2.1 l2.2) l4 M) (G_XProver_putIn_24 O n f l0 l1 l2 l4 S) := by
  intro f
  induction f with
  | zero => intro l0 l1 l2 l4 M S _ _; rw [G_XProver_putIn_24]; exact sim_none
  | succ f ih =>
    intro l0 l1 l2 l4 M S R H
    rw [F_XProver_putIn_24, G_XProver_putIn_24]
    refine sim_gI (by assumption) (fun _ => ?_)
    refine sim_if (fun _ => ?_) (fun _ => ?_)
    exact sim_retV (by assumption) (by assumption)
    refine sim_gA (by assumption) (fun _ => ?_)
    refine sim_gA (by assumption) (fun _ => ?_)
    refine sim_lI (by assumption) (fun _ => ?_)
    refine sim_lI (by assumption) (fun _ => ?_)
    refine sim_wI hO (by assumption) (by assumption) (fun _ _ _ _ => ?_)
    refine sim_bI (fun _ => ?_)
    exact ih _ _ _ _ _ _ (by assumption) (by assumption)
def G_XProver_putIn (O : qOb9) (n : Nat) (l0 : Nat) (l1 : Nat) (l2 : Nat × Nat) (l3 : Int32) (S : qS) : Option (Unit × qS) :=
  hA 6 O l0 4 (fun v1 =>
  hw 0 O S v1 (0 : Int32) (0 : Int32) (fun S2 =>
  hA 6 O l0 4 (fun v3 =>
  hw 0 O S2 v3 (1 : Int32) (1 : Int32) (fun S4 =>
  hA 6 O l0 4 (fun v5 =>
  hw 0 O S4 v5 (2 : Int32) l3 (fun S6 =>
  G_XProver_putIn_24 O n n l0 l1 l2 (0 : Int32) S6))))))
set_option maxHeartbeats 4000000 in
set_option maxRecDepth 100000 in
theorem S_XProver_putIn {O : qOb9} (hO : okO O) {n : Nat} {M0 : PM} {l0 : Nat} {l1 : Nat} {l2 : Nat × Nat} {l3 : Int32} {M : PM} {S : qS} (R : Rp O M S) (H : Fm O M0 M) : Sim eV O M0 (F_XProver_putIn n l0 l1 (oA O l2.1 l2.2) l3 M) (G_XProver_putIn O n l0 l1 l2 l3 S) := by
  unfold F_XProver_putIn G_XProver_putIn
  refine sim_gA (by assumption) (fun _ => ?_)
  refine sim_wI hO (by assumption) (by assumption) (fun _ _ _ _ => ?_)
  refine sim_gA (by assumption) (fun _ => ?_)
  refine sim_wI hO (by assumption) (by assumption) (fun _ _ _ _ => ?_)
  refine sim_gA (by assumption) (fun _ => ?_)
  refine sim_wI hO (by assumption) (by assumption) (fun _ _ _ _ => ?_)
  exact S_XProver_putIn_24 hO _ _ _ _ _ _ _ (by assumption) (by assumption)
def G_XQuestion_addInvariant_32 (O : qOb9) (n : Nat) (S : qS) : Option (Unit × qS) :=
  some ((), S)
set_option maxHeartbeats 4000000 in
set_option maxRecDepth 100000 in
theorem S_XQuestion_addInvariant_32 {O : qOb9} (hO : okO O) {n : Nat} {M0 : PM} {M : PM} {S : qS} (R : Rp O M S) (H : Fm O M0 M) : Sim eV O M0 (F_XQuestion_addInvariant_32 n M) (G_XQuestion_addInvariant_32 O n S) := by
  unfold F_XQuestion_addInvariant_32 G_XQuestion_addInvariant_32
  exact sim_retV (by assumption) (by assumption)
def G_XQuestion_addInvariant (O : qOb9) (n : Nat) (l0 : Nat) (l1 : Int32) (S : qS) : Option (Unit × qS) :=
  hI 7 O S l0 3 (fun v1 =>
  hA 7 O l0 0 (fun v2 =>
  hn O v2 (fun v3 =>
  if v3 ≤ v1 then
    G_XQuestion_addInvariant_32 O n S
  else
    hA 7 O l0 0 (fun v5 =>
    hI 7 O S l0 3 (fun v6 =>
    hw 0 O S v5 v6 l1 (fun S7 =>
    hI 7 O S7 l0 3 (fun v8 =>
    hP 7 O S7 l0 3 ((v8 + (1 : Int32))) (fun S9 =>
    G_XQuestion_addInvariant_32 O n S9))))))))
set_option maxHeartbeats 4000000 in
set_option maxRecDepth 100000 in
theorem S_XQuestion_addInvariant {O : qOb9} (hO : okO O) {n : Nat} {M0 : PM} {l0 : Nat} {l1 : Int32} {M : PM} {S : qS} (R : Rp O M S) (H : Fm O M0 M) : Sim eV O M0 (F_XQuestion_addInvariant n l0 l1 M) (G_XQuestion_addInvariant O n l0 l1 S) := by
  unfold F_XQuestion_addInvariant G_XQuestion_addInvariant
  refine sim_gI (by assumption) (fun _ => ?_)
  refine sim_gA (by assumption) (fun _ => ?_)
  refine sim_aL (by assumption) (fun _ => ?_)
  refine sim_if (fun _ => ?_) (fun _ => ?_)
  exact S_XQuestion_addInvariant_32 hO (by assumption) (by assumption)
  refine sim_gA (by assumption) (fun _ => ?_)
  refine sim_gI (by assumption) (fun _ => ?_)
  refine sim_wI hO (by assumption) (by assumption) (fun _ _ _ _ => ?_)
  refine sim_gI (by assumption) (fun _ => ?_)
  refine sim_pF (by assumption) (by assumption) (fun _ _ _ _ => ?_)
  exact S_XQuestion_addInvariant_32 hO (by assumption) (by assumption)
