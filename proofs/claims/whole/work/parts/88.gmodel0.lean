def G_XModel_chainOf (O : qOb9) (n : Nat) (l0 : Int32) (l1 : Int32) (l2 : Int32) (l3 : Int32) (S : qS) : Option (Int32 × qS) :=
  hM ((((((((((l0 * (31 : Int32)) + l1) + (1 : Int32)) * (31 : Int32)) + l2) + (1 : Int32)) * (31 : Int32)) + l3) + (1 : Int32)) &&& (2147483647 : Int32)) (1021 : Int32) (fun v1 =>
  some (v1, S))
set_option maxHeartbeats 4000000 in
set_option maxRecDepth 100000 in
theorem S_XModel_chainOf {O : qOb9} (hO : okO O) {n : Nat} {M0 : PM} {l0 : Int32} {l1 : Int32} {l2 : Int32} {l3 : Int32} {M : PM} {S : qS} (R : Rp O M S) (H : Fm O M0 M) : Sim eI O M0 (F_XModel_chainOf n l0 l1 l2 l3 M) (G_XModel_chainOf O n l0 l1 l2 l3 S) := by
  unfold F_XModel_chainOf G_XModel_chainOf
  refine sim_iR (fun _ => ?_)
  exact sim_retI (by assumption) (by assumption)
def G_XModel_link (O : qOb9) (n : Nat) (l0 : Nat) (l1 : Int32) (S : qS) : Option (Unit × qS) :=
  hA 0 O l0 3 (fun v1 =>
  hl 0 O S v1 l1 (fun v2 =>
  hA 0 O l0 4 (fun v3 =>
  hl 0 O S v3 l1 (fun v4 =>
  hA 0 O l0 5 (fun v5 =>
  hl 0 O S v5 l1 (fun v6 =>
  hA 0 O l0 6 (fun v7 =>
  hl 0 O S v7 l1 (fun v8 =>
  yC (G_XModel_chainOf O n v2 v4 v6 v8 S) (fun v10 S9 =>
  hA 0 O l0 8 (fun v11 =>
  hA 0 O l0 7 (fun v12 =>
  hl 0 O S9 v12 v10 (fun v13 =>
  hw 0 O S9 v11 l1 v13 (fun S14 =>
  hA 0 O l0 7 (fun v15 =>
  hw 0 O S14 v15 v10 l1 (fun S16 =>
  some ((), S16))))))))))))))))
set_option maxHeartbeats 4000000 in
set_option maxRecDepth 100000 in
theorem S_XModel_link {O : qOb9} (hO : okO O) {n : Nat} {M0 : PM} {l0 : Nat} {l1 : Int32} {M : PM} {S : qS} (R : Rp O M S) (H : Fm O M0 M) : Sim eV O M0 (F_XModel_link n l0 l1 M) (G_XModel_link O n l0 l1 S) := by
  unfold F_XModel_link G_XModel_link
  refine sim_gA (by assumption) (fun _ => ?_)
  refine sim_lI (by assumption) (fun _ => ?_)
  refine sim_gA (by assumption) (fun _ => ?_)
  refine sim_lI (by assumption) (fun _ => ?_)
  refine sim_gA (by assumption) (fun _ => ?_)
  refine sim_lI (by assumption) (fun _ => ?_)
  refine sim_gA (by assumption) (fun _ => ?_)
  refine sim_lI (by assumption) (fun _ => ?_)
  refine sim_cI (S_XModel_chainOf hO (by assumption) (by assumption)) (fun _ _ _ _ _ => ?_)
  refine sim_gA (by assumption) (fun _ => ?_)
  refine sim_gA (by assumption) (fun _ => ?_)
  refine sim_lI (by assumption) (fun _ => ?_)
  refine sim_wI hO (by assumption) (by assumption) (fun _ _ _ _ => ?_)
  refine sim_gA (by assumption) (fun _ => ?_)
  refine sim_wI hO (by assumption) (by assumption) (fun _ _ _ _ => ?_)
  exact sim_retV (by assumption) (by assumption)
def G_XModel_begin_32 (O : qOb9) (n : Nat) : Nat → Nat → Int32 → qS → Option (Unit × qS)
  | 0, _, _, _ => none
  | f + 1, l0, l1, S =>
    hI 0 O S l0 1 (fun v1 =>
    if v1 ≤ l1 then
      some ((), S)
    else
      hk 0 O l0 (
      yV (G_XModel_link O n l0 l1 S) (fun S3 =>
      hB (l1 + (1 : Int32)) (fun v4 =>
      (G_XModel_begin_32 O n f) l0 v4 S3))))
set_option maxHeartbeats 4000000 in
set_option maxRecDepth 100000 in
theorem S_XModel_begin_32 {O : qOb9} (hO : okO O) {n : Nat} {M0 : PM} : ∀ (f : Nat) (l0 : Nat) (l1 : Int32) (M : PM) (S : qS), Rp O M S → Fm O M0 M → Sim eV O M0 (F_XModel_begin_32 n f l0 l1 M) (G_XModel_begin_32 O n f l0 l1 S) := by
  intro f
  induction f with
  | zero => intro l0 l1 M S _ _; rw [G_XModel_begin_32]; exact sim_none
  | succ f ih =>
    intro l0 l1 M S R H
    rw [F_XModel_begin_32, G_XModel_begin_32]
    refine sim_gI (by assumption) (fun _ => ?_)
    refine sim_if (fun _ => ?_) (fun _ => ?_)
    exact sim_retV (by assumption) (by assumption)
    refine sim_kO (by assumption) ?_
    refine sim_cV (S_XModel_link hO (by assumption) (by assumption)) (fun _ _ _ _ => ?_)
    refine sim_bI (fun _ => ?_)
    exact ih _ _ _ _ (by assumption) (by assumption)
def G_XModel_begin_2 (O : qOb9) (n : Nat) : Nat → Nat → Int32 → qS → Option (Unit × qS)
  | 0, _, _, _ => none
  | f + 1, l0, l1, S =>
    if (1021 : Int32) ≤ l1 then
      hI 0 O S l0 1 (fun v2 =>
      hP 0 O S l0 2 (v2) (fun S3 =>
      G_XModel_begin_32 O n n l0 (0 : Int32) S3))
    else
      hA 0 O l0 7 (fun v4 =>
      hw 0 O S v4 l1 (-1 : Int32) (fun S5 =>
      hB (l1 + (1 : Int32)) (fun v6 =>
      (G_XModel_begin_2 O n f) l0 v6 S5)))
set_option maxHeartbeats 4000000 in
set_option maxRecDepth 100000 in
theorem S_XModel_begin_2 {O : qOb9} (hO : okO O) {n : Nat} {M0 : PM} : ∀ (f : Nat) (l0 : Nat) (l1 : Int32) (M : PM) (S : qS), Rp O M S → Fm O M0 M → Sim eV O M0 (F_XModel_begin_2 n f l0 l1 M) (G_XModel_begin_2 O n f l0 l1 S) := by
  intro f
  induction f with
  | zero => intro l0 l1 M S _ _; rw [G_XModel_begin_2]; exact sim_none
  | succ f ih =>
    intro l0 l1 M S R H
    rw [F_XModel_begin_2, G_XModel_begin_2]
    refine sim_if (fun _ => ?_) (fun _ => ?_)
    refine sim_gI (by assumption) (fun _ => ?_)
    refine sim_pF (by assumption) (by assumption) (fun _ _ _ _ => ?_)
    exact S_XModel_begin_32 hO _ _ _ _ _ (by assumption) (by assumption)
    refine sim_gA (by assumption) (fun _ => ?_)
    refine sim_wI hO (by assumption) (by assumption) (fun _ _ _ _ => ?_)
    refine sim_bI (fun _ => ?_)
    exact ih _ _ _ _ (by assumption) (by assumption)
def G_XModel_begin (O : qOb9) (n : Nat) (l0 : Nat) (S : qS) : Option (Unit × qS) :=
  G_XModel_begin_2 O n n l0 (0 : Int32) S
set_option maxHeartbeats 4000000 in
set_option maxRecDepth 100000 in
theorem S_XModel_begin {O : qOb9} (hO : okO O) {n : Nat} {M0 : PM} {l0 : Nat} {M : PM} {S : qS} (R : Rp O M S) (H : Fm O M0 M) : Sim eV O M0 (F_XModel_begin n l0 M) (G_XModel_begin O n l0 S) := by
  unfold F_XModel_begin G_XModel_begin
  exact S_XModel_begin_2 hO _ _ _ _ _ (by assumption) (by assumption)
def G_XModel_fail (O : qOb9) (n : Nat) (l0 : Nat) (l1 : Int32) (S : qS) : Option (Int32 × qS) :=
  hP 0 O S l0 0 (l1) (fun S1 =>
  some ((0 : Int32), S1))
set_option maxHeartbeats 4000000 in
set_option maxRecDepth 100000 in
theorem S_XModel_fail {O : qOb9} (hO : okO O) {n : Nat} {M0 : PM} {l0 : Nat} {l1 : Int32} {M : PM} {S : qS} (R : Rp O M S) (H : Fm O M0 M) : Sim eI O M0 (F_XModel_fail n l0 l1 M) (G_XModel_fail O n l0 l1 S) := by
  unfold F_XModel_fail G_XModel_fail
  refine sim_pF (by assumption) (by assumption) (fun _ _ _ _ => ?_)
  exact sim_retI (by assumption) (by assumption)
def G_XModel_add (O : qOb9) (n : Nat) (l0 : Nat) (l1 : Int32) (l2 : Int32) (l3 : Int32) (l4 : Int32) (S : qS) : Option (Int32 × qS) :=
  hA 0 O l0 3 (fun v1 =>
  hI 0 O S l0 2 (fun v2 =>
  hw 0 O S v1 v2 l1 (fun S3 =>
  hA 0 O l0 4 (fun v4 =>
  hI 0 O S3 l0 2 (fun v5 =>
  hw 0 O S3 v4 v5 l2 (fun S6 =>
  hA 0 O l0 5 (fun v7 =>
  hI 0 O S6 l0 2 (fun v8 =>
  hw 0 O S6 v7 v8 l3 (fun S9 =>
  hA 0 O l0 6 (fun v10 =>
  hI 0 O S9 l0 2 (fun v11 =>
  hw 0 O S9 v10 v11 l4 (fun S12 =>
  hI 0 O S12 l0 2 (fun v13 =>
  hk 0 O l0 (
  yV (G_XModel_link O n l0 v13 S12) (fun S14 =>
  hI 0 O S14 l0 2 (fun v15 =>
  hP 0 O S14 l0 2 ((v15 + (1 : Int32))) (fun S16 =>
  hI 0 O S16 l0 2 (fun v17 =>
  some ((v17 - (1 : Int32)), S16)))))))))))))))))))
set_option maxHeartbeats 4000000 in
set_option maxRecDepth 100000 in
theorem S_XModel_add {O : qOb9} (hO : okO O) {n : Nat} {M0 : PM} {l0 : Nat} {l1 : Int32} {l2 : Int32} {l3 : Int32} {l4 : Int32} {M : PM} {S : qS} (R : Rp O M S) (H : Fm O M0 M) : Sim eI O M0 (F_XModel_add n l0 l1 l2 l3 l4 M) (G_XModel_add O n l0 l1 l2 l3 l4 S) := by
  unfold F_XModel_add G_XModel_add
  refine sim_gA (by assumption) (fun _ => ?_)
  refine sim_gI (by assumption) (fun _ => ?_)
  refine sim_wI hO (by assumption) (by assumption) (fun _ _ _ _ => ?_)
  refine sim_gA (by assumption) (fun _ => ?_)
  refine sim_gI (by assumption) (fun _ => ?_)
  refine sim_wI hO (by assumption) (by assumption) (fun _ _ _ _ => ?_)
  refine sim_gA (by assumption) (fun _ => ?_)
  refine sim_gI (by assumption) (fun _ => ?_)
  refine sim_wI hO (by assumption) (by assumption) (fun _ _ _ _ => ?_)
  refine sim_gA (by assumption) (fun _ => ?_)
  refine sim_gI (by assumption) (fun _ => ?_)
  refine sim_wI hO (by assumption) (by assumption) (fun _ _ _ _ => ?_)
  refine sim_gI (by assumption) (fun _ => ?_)
  refine sim_kO (by assumption) ?_
  refine sim_cV (S_XModel_link hO (by assumption) (by assumption)) (fun _ _ _ _ => ?_)
  refine sim_gI (by assumption) (fun _ => ?_)
  refine sim_pF (by assumption) (by assumption) (fun _ _ _ _ => ?_)
  refine sim_gI (by assumption) (fun _ => ?_)
  exact sim_retI (by assumption) (by assumption)
def G_XModel_addElement_24 (O : qOb9) (n : Nat) (l0 : Nat) (S : qS) : Option (Int32 × qS) :=
  hk 0 O l0 (
  yC (G_XModel_fail O n l0 (1 : Int32) S) (fun v2 S1 =>
  some (v2, S1)))
set_option maxHeartbeats 4000000 in
set_option maxRecDepth 100000 in
theorem S_XModel_addElement_24 {O : qOb9} (hO : okO O) {n : Nat} {M0 : PM} {l0 : Nat} {M : PM} {S : qS} (R : Rp O M S) (H : Fm O M0 M) : Sim eI O M0 (F_XModel_addElement_24 n l0 M) (G_XModel_addElement_24 O n l0 S) := by
  unfold F_XModel_addElement_24 G_XModel_addElement_24
  refine sim_kO (by assumption) ?_
  refine sim_cI (S_XModel_fail hO (by assumption) (by assumption)) (fun _ _ _ _ _ => ?_)
  exact sim_retI (by assumption) (by assumption)
def G_XModel_addElement (O : qOb9) (n : Nat) (l0 : Nat) (l1 : Int32) (S : qS) : Option (Int32 × qS) :=
  hP 0 O S l0 0 ((0 : Int32)) (fun S1 =>
  hI 0 O S1 l0 9 (fun v2 =>
  if v2 = (16 : Int32) then
    G_XModel_addElement_24 O n l0 S1
  else
    hI 0 O S1 l0 1 (fun v4 =>
    if v4 = (300 : Int32) then
      G_XModel_addElement_24 O n l0 S1
    else
      hk 0 O l0 (
      yV (G_XModel_begin O n l0 S1) (fun S6 =>
      hI 0 O S6 l0 9 (fun v7 =>
      hk 0 O l0 (
      yC (G_XModel_add O n l0 l1 v7 (-1 : Int32) (-1 : Int32) S6) (fun v9 S8 =>
      hI 0 O S8 l0 1 (fun v10 =>
      hP 0 O S8 l0 1 ((v10 + (1 : Int32))) (fun S11 =>
      hA 0 O l0 11 (fun v12 =>
      hI 0 O S11 l0 9 (fun v13 =>
      hw 0 O S11 v12 v13 v9 (fun S14 =>
      hA 0 O l0 12 (fun v15 =>
      hI 0 O S14 l0 9 (fun v16 =>
      hw 0 O S14 v15 v16 v9 (fun S17 =>
      hI 0 O S17 l0 9 (fun v18 =>
      hP 0 O S17 l0 9 ((v18 + (1 : Int32))) (fun S19 =>
      some (v9, S19)))))))))))))))))))
set_option maxHeartbeats 4000000 in
set_option maxRecDepth 100000 in
theorem S_XModel_addElement {O : qOb9} (hO : okO O) {n : Nat} {M0 : PM} {l0 : Nat} {l1 : Int32} {M : PM} {S : qS} (R : Rp O M S) (H : Fm O M0 M) : Sim eI O M0 (F_XModel_addElement n l0 l1 M) (G_XModel_addElement O n l0 l1 S) := by
  unfold F_XModel_addElement G_XModel_addElement
  refine sim_pF (by assumption) (by assumption) (fun _ _ _ _ => ?_)
  refine sim_gI (by assumption) (fun _ => ?_)
  refine sim_if (fun _ => ?_) (fun _ => ?_)
  exact S_XModel_addElement_24 hO (by assumption) (by assumption)
  refine sim_gI (by assumption) (fun _ => ?_)
  refine sim_if (fun _ => ?_) (fun _ => ?_)
  exact S_XModel_addElement_24 hO (by assumption) (by assumption)
  refine sim_kO (by assumption) ?_
  refine sim_cV (S_XModel_begin hO (by assumption) (by assumption)) (fun _ _ _ _ => ?_)
  refine sim_gI (by assumption) (fun _ => ?_)
  refine sim_kO (by assumption) ?_
  refine sim_cI (S_XModel_add hO (by assumption) (by assumption)) (fun _ _ _ _ _ => ?_)
  refine sim_gI (by assumption) (fun _ => ?_)
  refine sim_pF (by assumption) (by assumption) (fun _ _ _ _ => ?_)
  refine sim_gA (by assumption) (fun _ => ?_)
  refine sim_gI (by assumption) (fun _ => ?_)
  refine sim_wI hO (by assumption) (by assumption) (fun _ _ _ _ => ?_)
  refine sim_gA (by assumption) (fun _ => ?_)
  refine sim_gI (by assumption) (fun _ => ?_)
  refine sim_wI hO (by assumption) (by assumption) (fun _ _ _ _ => ?_)
  refine sim_gI (by assumption) (fun _ => ?_)
  refine sim_pF (by assumption) (by assumption) (fun _ _ _ _ => ?_)
  exact sim_retI (by assumption) (by assumption)
def G_XModel_word (O : qOb9) (n : Nat) (l0 : Nat) (S : qS) : Option (Int32 × qS) :=
  hk 0 O l0 (
  yC (G_XModel_addElement O n l0 (3 : Int32) S) (fun v2 S1 =>
  some (v2, S1)))
set_option maxHeartbeats 4000000 in
set_option maxRecDepth 100000 in
theorem S_XModel_word {O : qOb9} (hO : okO O) {n : Nat} {M0 : PM} {l0 : Nat} {M : PM} {S : qS} (R : Rp O M S) (H : Fm O M0 M) : Sim eI O M0 (F_XModel_word n l0 M) (G_XModel_word O n l0 S) := by
  unfold F_XModel_word G_XModel_word
  refine sim_kO (by assumption) ?_
  refine sim_cI (S_XModel_addElement hO (by assumption) (by assumption)) (fun _ _ _ _ _ => ?_)
  exact sim_retI (by assumption) (by assumption)
def G_XModel_thrown (O : qOb9) (n : Nat) (l0 : Nat) (S : qS) : Option (Int32 × qS) :=
  hI 0 O S l0 0 (fun v1 =>
  some (v1, S))
set_option maxHeartbeats 4000000 in
set_option maxRecDepth 100000 in
theorem S_XModel_thrown {O : qOb9} (hO : okO O) {n : Nat} {M0 : PM} {l0 : Nat} {M : PM} {S : qS} (R : Rp O M S) (H : Fm O M0 M) : Sim eI O M0 (F_XModel_thrown n l0 M) (G_XModel_thrown O n l0 S) := by
  unfold F_XModel_thrown G_XModel_thrown
  refine sim_gI (by assumption) (fun _ => ?_)
  exact sim_retI (by assumption) (by assumption)
def G_XModel_truth (O : qOb9) (n : Nat) (l0 : Nat) (S : qS) : Option (Int32 × qS) :=
  hk 0 O l0 (
  yC (G_XModel_addElement O n l0 (4 : Int32) S) (fun v2 S1 =>
  some (v2, S1)))
set_option maxHeartbeats 4000000 in
set_option maxRecDepth 100000 in
theorem S_XModel_truth {O : qOb9} (hO : okO O) {n : Nat} {M0 : PM} {l0 : Nat} {M : PM} {S : qS} (R : Rp O M S) (H : Fm O M0 M) : Sim eI O M0 (F_XModel_truth n l0 M) (G_XModel_truth O n l0 S) := by
  unfold F_XModel_truth G_XModel_truth
  refine sim_kO (by assumption) ?_
  refine sim_cI (S_XModel_addElement hO (by assumption) (by assumption)) (fun _ _ _ _ _ => ?_)
  exact sim_retI (by assumption) (by assumption)
def G_XModel_within_15 (O : qOb9) (n : Nat) (s0 : Int32) (S : qS) : Option (Int32 × qS) :=
  hz s0 S
set_option maxHeartbeats 4000000 in
set_option maxRecDepth 100000 in
theorem S_XModel_within_15 {O : qOb9} (hO : okO O) {n : Nat} {M0 : PM} {s0 : Int32} {M : PM} {S : qS} (R : Rp O M S) (H : Fm O M0 M) : Sim eI O M0 (F_XModel_within_15 n s0 M) (G_XModel_within_15 O n s0 S) := by
  unfold F_XModel_within_15 G_XModel_within_15
  exact sim_rZ (by assumption) (by assumption)
def G_XModel_within_14 (O : qOb9) (n : Nat) (S : qS) : Option (Int32 × qS) :=
  G_XModel_within_15 O n (0 : Int32) S
set_option maxHeartbeats 4000000 in
set_option maxRecDepth 100000 in
theorem S_XModel_within_14 {O : qOb9} (hO : okO O) {n : Nat} {M0 : PM} {M : PM} {S : qS} (R : Rp O M S) (H : Fm O M0 M) : Sim eI O M0 (F_XModel_within_14 n M) (G_XModel_within_14 O n S) := by
  unfold F_XModel_within_14 G_XModel_within_14
  exact S_XModel_within_15 hO (by assumption) (by assumption)
def G_XModel_within (O : qOb9) (n : Nat) (l0 : Int32) (l1 : Int32) (l2 : Int32) (S : qS) : Option (Int32 × qS) :=
  if l0 < l1 then
    G_XModel_within_14 O n S
  else
    if l2 < l0 then
      G_XModel_within_14 O n S
    else
      G_XModel_within_15 O n (1 : Int32) S
set_option maxHeartbeats 4000000 in
set_option maxRecDepth 100000 in
theorem S_XModel_within {O : qOb9} (hO : okO O) {n : Nat} {M0 : PM} {l0 : Int32} {l1 : Int32} {l2 : Int32} {M : PM} {S : qS} (R : Rp O M S) (H : Fm O M0 M) : Sim eI O M0 (F_XModel_within n l0 l1 l2 M) (G_XModel_within O n l0 l1 l2 S) := by
  unfold F_XModel_within G_XModel_within
  refine sim_if (fun _ => ?_) (fun _ => ?_)
  exact S_XModel_within_14 hO (by assumption) (by assumption)
  refine sim_if (fun _ => ?_) (fun _ => ?_)
  exact S_XModel_within_14 hO (by assumption) (by assumption)
  exact S_XModel_within_15 hO (by assumption) (by assumption)
def G_XModel_isNode (O : qOb9) (n : Nat) (l0 : Nat) (l1 : Int32) (S : qS) : Option (Int32 × qS) :=
  hI 0 O S l0 1 (fun v1 =>
  yC (G_XModel_within O n l1 (0 : Int32) (v1 - (1 : Int32)) S) (fun v3 S2 =>
  hz v3 S2))
set_option maxHeartbeats 4000000 in
set_option maxRecDepth 100000 in
theorem S_XModel_isNode {O : qOb9} (hO : okO O) {n : Nat} {M0 : PM} {l0 : Nat} {l1 : Int32} {M : PM} {S : qS} (R : Rp O M S) (H : Fm O M0 M) : Sim eI O M0 (F_XModel_isNode n l0 l1 M) (G_XModel_isNode O n l0 l1 S) := by
  unfold F_XModel_isNode G_XModel_isNode
  refine sim_gI (by assumption) (fun _ => ?_)
  refine sim_cI (S_XModel_within hO (by assumption) (by assumption)) (fun _ _ _ _ _ => ?_)
  exact sim_rZ (by assumption) (by assumption)
def G_XModel_isWord_48 (O : qOb9) (n : Nat) (s0 : Int32) (S : qS) : Option (Int32 × qS) :=
  hz s0 S
set_option maxHeartbeats 4000000 in
set_option maxRecDepth 100000 in
theorem S_XModel_isWord_48 {O : qOb9} (hO : okO O) {n : Nat} {M0 : PM} {s0 : Int32} {M : PM} {S : qS} (R : Rp O M S) (H : Fm O M0 M) : Sim eI O M0 (F_XModel_isWord_48 n s0 M) (G_XModel_isWord_48 O n s0 S) := by
  unfold F_XModel_isWord_48 G_XModel_isWord_48
  exact sim_rZ (by assumption) (by assumption)
def G_XModel_isWord_43 (O : qOb9) (n : Nat) (S : qS) : Option (Int32 × qS) :=
  G_XModel_isWord_48 O n (1 : Int32) S
set_option maxHeartbeats 4000000 in
set_option maxRecDepth 100000 in
theorem S_XModel_isWord_43 {O : qOb9} (hO : okO O) {n : Nat} {M0 : PM} {M : PM} {S : qS} (R : Rp O M S) (H : Fm O M0 M) : Sim eI O M0 (F_XModel_isWord_43 n M) (G_XModel_isWord_43 O n S) := by
  unfold F_XModel_isWord_43 G_XModel_isWord_43
  exact S_XModel_isWord_48 hO (by assumption) (by assumption)
def G_XModel_isWord_2 (O : qOb9) (n : Nat) : Nat → Nat → Int32 → qS → Option (Int32 × qS)
  | 0, _, _, _ => none
  | f + 1, l0, l2, S =>
    hA 0 O l0 3 (fun v1 =>
    hl 0 O S v1 l2 (fun v2 =>
    if v2 = (9 : Int32) then
      hA 0 O l0 5 (fun v10 =>
      hl 0 O S v10 l2 (fun v11 =>
      (G_XModel_isWord_2 O n f) l0 v11 S))
    else
      hA 0 O l0 3 (fun v4 =>
      hl 0 O S v4 l2 (fun v5 =>
      if v5 = (3 : Int32) then
        G_XModel_isWord_43 O n S
      else
        hA 0 O l0 3 (fun v7 =>
        hl 0 O S v7 l2 (fun v8 =>
        if v8 = (5 : Int32) then
          G_XModel_isWord_43 O n S
        else
          G_XModel_isWord_48 O n (0 : Int32) S))))))
set_option maxHeartbeats 4000000 in
set_option maxRecDepth 100000 in
theorem S_XModel_isWord_2 {O : qOb9} (hO : okO O) {n : Nat} {M0 : PM} : ∀ (f : Nat) (l0 : Nat) (l2 : Int32) (M : PM) (S : qS), Rp O M S → Fm O M0 M → Sim eI O M0 (F_XModel_isWord_2 n f l0 l2 M) (G_XModel_isWord_2 O n f l0 l2 S) := by
  intro f
  induction f with
  | zero => intro l0 l2 M S _ _; rw [G_XModel_isWord_2]; exact sim_none
  | succ f ih =>
    intro l0 l2 M S R H
    rw [F_XModel_isWord_2, G_XModel_isWord_2]
    refine sim_gA (by assumption) (fun _ => ?_)
    refine sim_lI (by assumption) (fun _ => ?_)
    refine sim_if (fun _ => ?_) (fun _ => ?_)
    refine sim_gA (by assumption) (fun _ => ?_)
    refine sim_lI (by assumption) (fun _ => ?_)
    exact ih _ _ _ _ (by assumption) (by assumption)
    refine sim_gA (by assumption) (fun _ => ?_)
    refine sim_lI (by assumption) (fun _ => ?_)
    refine sim_if (fun _ => ?_) (fun _ => ?_)
    exact S_XModel_isWord_43 hO (by assumption) (by assumption)
    refine sim_gA (by assumption) (fun _ => ?_)
    refine sim_lI (by assumption) (fun _ => ?_)
    refine sim_if (fun _ => ?_) (fun _ => ?_)
    exact S_XModel_isWord_43 hO (by assumption) (by assumption)
    exact S_XModel_isWord_48 hO (by assumption) (by assumption)
def G_XModel_isWord (O : qOb9) (n : Nat) (l0 : Nat) (l1 : Int32) (S : qS) : Option (Int32 × qS) :=
  G_XModel_isWord_2 O n n l0 l1 S
set_option maxHeartbeats 4000000 in
set_option maxRecDepth 100000 in
theorem S_XModel_isWord {O : qOb9} (hO : okO O) {n : Nat} {M0 : PM} {l0 : Nat} {l1 : Int32} {M : PM} {S : qS} (R : Rp O M S) (H : Fm O M0 M) : Sim eI O M0 (F_XModel_isWord n l0 l1 M) (G_XModel_isWord O n l0 l1 S) := by
  unfold F_XModel_isWord G_XModel_isWord
  exact S_XModel_isWord_2 hO _ _ _ _ _ (by assumption) (by assumption)
def G_XModel_plainest_57 (O : qOb9) (n : Nat) (s0 : Int32) (S : qS) : Option (Int32 × qS) :=
  some (s0, S)
set_option maxHeartbeats 4000000 in
set_option maxRecDepth 100000 in
theorem S_XModel_plainest_57 {O : qOb9} (hO : okO O) {n : Nat} {M0 : PM} {s0 : Int32} {M : PM} {S : qS} (R : Rp O M S) (H : Fm O M0 M) : Sim eI O M0 (F_XModel_plainest_57 n s0 M) (G_XModel_plainest_57 O n s0 S) := by
  unfold F_XModel_plainest_57 G_XModel_plainest_57
  exact sim_retI (by assumption) (by assumption)
def G_XModel_plainest_100 (O : qOb9) (n : Nat) (s0 : Int32) (S : qS) : Option (Int32 × qS) :=
  some (s0, S)
set_option maxHeartbeats 4000000 in
set_option maxRecDepth 100000 in
theorem S_XModel_plainest_100 {O : qOb9} (hO : okO O) {n : Nat} {M0 : PM} {s0 : Int32} {M : PM} {S : qS} (R : Rp O M S) (H : Fm O M0 M) : Sim eI O M0 (F_XModel_plainest_100 n s0 M) (G_XModel_plainest_100 O n s0 S) := by
  unfold F_XModel_plainest_100 G_XModel_plainest_100
  exact sim_retI (by assumption) (by assumption)
def G_XModel_plainest_72 (O : qOb9) (n : Nat) (S : qS) : Option (Int32 × qS) :=
  G_XModel_plainest_100 O n (0 : Int32) S
set_option maxHeartbeats 4000000 in
set_option maxRecDepth 100000 in
theorem S_XModel_plainest_72 {O : qOb9} (hO : okO O) {n : Nat} {M0 : PM} {M : PM} {S : qS} (R : Rp O M S) (H : Fm O M0 M) : Sim eI O M0 (F_XModel_plainest_72 n M) (G_XModel_plainest_72 O n S) := by
  unfold F_XModel_plainest_72 G_XModel_plainest_72
  exact S_XModel_plainest_100 hO (by assumption) (by assumption)
def G_XModel_plainest_95 (O : qOb9) (n : Nat) (l2 : Int32) (S : qS) : Option (Int32 × qS) :=
  G_XModel_plainest_100 O n l2 S
set_option maxHeartbeats 4000000 in
set_option maxRecDepth 100000 in
theorem S_XModel_plainest_95 {O : qOb9} (hO : okO O) {n : Nat} {M0 : PM} {l2 : Int32} {M : PM} {S : qS} (R : Rp O M S) (H : Fm O M0 M) : Sim eI O M0 (F_XModel_plainest_95 n l2 M) (G_XModel_plainest_95 O n l2 S) := by
  unfold F_XModel_plainest_95 G_XModel_plainest_95
  exact S_XModel_plainest_100 hO (by assumption) (by assumption)
def G_XModel_plainest_136 (O : qOb9) (n : Nat) (s0 : Int32) (S : qS) : Option (Int32 × qS) :=
  some (s0, S)
set_option maxHeartbeats 4000000 in
set_option maxRecDepth 100000 in
theorem S_XModel_plainest_136 {O : qOb9} (hO : okO O) {n : Nat} {M0 : PM} {s0 : Int32} {M : PM} {S : qS} (R : Rp O M S) (H : Fm O M0 M) : Sim eI O M0 (F_XModel_plainest_136 n s0 M) (G_XModel_plainest_136 O n s0 S) := by
  unfold F_XModel_plainest_136 G_XModel_plainest_136
  exact sim_retI (by assumption) (by assumption)
def G_XModel_plainest_13 (O : qOb9) (n : Nat) (l0 : Nat) (l1 : Int32) (l2 : Int32) (l3 : Int32) (l4 : Int32) (S : qS) : Option (Int32 × qS) :=
  if l1 = (7 : Int32) then
    if l2 = (1 : Int32) then
      G_XModel_plainest_57 O n (0 : Int32) S
    else
      if l2 = (0 : Int32) then
        G_XModel_plainest_57 O n (1 : Int32) S
      else
        hA 0 O l0 3 (fun v14 =>
        hl 0 O S v14 l2 (fun v15 =>
        if v15 = (7 : Int32) then
          hA 0 O l0 4 (fun v17 =>
          hl 0 O S v17 l2 (fun v18 =>
          G_XModel_plainest_57 O n v18 S))
        else
          G_XModel_plainest_57 O n (-1 : Int32) S))
  else
    if l1 = (8 : Int32) then
      if l2 = (0 : Int32) then
        G_XModel_plainest_72 O n S
      else
        if l3 = (0 : Int32) then
          G_XModel_plainest_72 O n S
        else
          if l2 = (1 : Int32) then
            G_XModel_plainest_100 O n l3 S
          else
            if l3 = (1 : Int32) then
              G_XModel_plainest_95 O n l2 S
            else
              if l2 = l3 then
                G_XModel_plainest_95 O n l2 S
              else
                G_XModel_plainest_100 O n (-1 : Int32) S
    else
      if l1 = (9 : Int32) then
        if l2 = (1 : Int32) then
          G_XModel_plainest_136 O n l3 S
        else
          if l2 = (0 : Int32) then
            G_XModel_plainest_136 O n l4 S
          else
            if l3 = l4 then
              G_XModel_plainest_136 O n l3 S
            else
              G_XModel_plainest_136 O n (-1 : Int32) S
      else
        some ((-1 : Int32), S)
set_option maxHeartbeats 4000000 in
set_option maxRecDepth 100000 in
theorem S_XModel_plainest_13 {O : qOb9} (hO : okO O) {n : Nat} {M0 : PM} {l0 : Nat} {l1 : Int32} {l2 : Int32} {l3 : Int32} {l4 : Int32} {M : PM} {S : qS} (R : Rp O M S) (H : Fm O M0 M) : Sim eI O M0 (F_XModel_plainest_13 n l0 l1 l2 l3 l4 M) (G_XModel_plainest_13 O n l0 l1 l2 l3 l4 S) := by
  unfold F_XModel_plainest_13 G_XModel_plainest_13
  refine sim_if (fun _ => ?_) (fun _ => ?_)
  refine sim_if (fun _ => ?_) (fun _ => ?_)
  exact S_XModel_plainest_57 hO (by assumption) (by assumption)
  refine sim_if (fun _ => ?_) (fun _ => ?_)
  exact S_XModel_plainest_57 hO (by assumption) (by assumption)
  refine sim_gA (by assumption) (fun _ => ?_)
  refine sim_lI (by assumption) (fun _ => ?_)
  refine sim_if (fun _ => ?_) (fun _ => ?_)
  refine sim_gA (by assumption) (fun _ => ?_)
  refine sim_lI (by assumption) (fun _ => ?_)
  exact S_XModel_plainest_57 hO (by assumption) (by assumption)
  exact S_XModel_plainest_57 hO (by assumption) (by assumption)
  refine sim_if (fun _ => ?_) (fun _ => ?_)
  refine sim_if (fun _ => ?_) (fun _ => ?_)
  exact S_XModel_plainest_72 hO (by assumption) (by assumption)
  refine sim_if (fun _ => ?_) (fun _ => ?_)
  exact S_XModel_plainest_72 hO (by assumption) (by assumption)
  refine sim_if (fun _ => ?_) (fun _ => ?_)
  exact S_XModel_plainest_100 hO (by assumption) (by assumption)
  refine sim_if (fun _ => ?_) (fun _ => ?_)
  exact S_XModel_plainest_95 hO (by assumption) (by assumption)
  refine sim_if (fun _ => ?_) (fun _ => ?_)
  exact S_XModel_plainest_95 hO (by assumption) (by assumption)
  exact S_XModel_plainest_100 hO (by assumption) (by assumption)
  refine sim_if (fun _ => ?_) (fun _ => ?_)
  refine sim_if (fun _ => ?_) (fun _ => ?_)
  exact S_XModel_plainest_136 hO (by assumption) (by assumption)
  refine sim_if (fun _ => ?_) (fun _ => ?_)
  exact S_XModel_plainest_136 hO (by assumption) (by assumption)
  refine sim_if (fun _ => ?_) (fun _ => ?_)
  exact S_XModel_plainest_136 hO (by assumption) (by assumption)
  exact S_XModel_plainest_136 hO (by assumption) (by assumption)
  exact sim_retI (by assumption) (by assumption)
def G_XModel_plainest (O : qOb9) (n : Nat) (l0 : Nat) (l1 : Int32) (l2 : Int32) (l3 : Int32) (l4 : Int32) (S : qS) : Option (Int32 × qS) :=
  if l1 = (6 : Int32) then
    if l2 = l3 then
      some ((1 : Int32), S)
    else
      G_XModel_plainest_13 O n l0 l1 l2 l3 l4 S
  else
    G_XModel_plainest_13 O n l0 l1 l2 l3 l4 S
set_option maxHeartbeats 4000000 in
set_option maxRecDepth 100000 in
theorem S_XModel_plainest {O : qOb9} (hO : okO O) {n : Nat} {M0 : PM} {l0 : Nat} {l1 : Int32} {l2 : Int32} {l3 : Int32} {l4 : Int32} {M : PM} {S : qS} (R : Rp O M S) (H : Fm O M0 M) : Sim eI O M0 (F_XModel_plainest n l0 l1 l2 l3 l4 M) (G_XModel_plainest O n l0 l1 l2 l3 l4 S) := by
  unfold F_XModel_plainest G_XModel_plainest
  refine sim_if (fun _ => ?_) (fun _ => ?_)
  refine sim_if (fun _ => ?_) (fun _ => ?_)
  exact sim_retI (by assumption) (by assumption)
  exact S_XModel_plainest_13 hO (by assumption) (by assumption)
  exact S_XModel_plainest_13 hO (by assumption) (by assumption)
def G_XModel_find_77 (O : qOb9) (n : Nat) (l5 : Int32) (S : qS) : Option (Int32 × qS) :=
  some (l5, S)
set_option maxHeartbeats 4000000 in
set_option maxRecDepth 100000 in
theorem S_XModel_find_77 {O : qOb9} (hO : okO O) {n : Nat} {M0 : PM} {l5 : Int32} {M : PM} {S : qS} (R : Rp O M S) (H : Fm O M0 M) : Sim eI O M0 (F_XModel_find_77 n l5 M) (G_XModel_find_77 O n l5 S) := by
  unfold F_XModel_find_77 G_XModel_find_77
  exact sim_retI (by assumption) (by assumption)
def G_XModel_find_65 (O : qOb9) (n : Nat) (rec15 : Nat → Int32 → Int32 → Int32 → Int32 → Int32 → qS → Option (Int32 × qS)) (l0 : Nat) (l1 : Int32) (l2 : Int32) (l3 : Int32) (l4 : Int32) (l5 : Int32) (S : qS) : Option (Int32 × qS) :=
  hA 0 O l0 8 (fun v1 =>
  hl 0 O S v1 l5 (fun v2 =>
  rec15 l0 l1 l2 l3 l4 v2 S))
set_option maxHeartbeats 4000000 in
set_option maxRecDepth 100000 in
theorem S_XModel_find_65 {O : qOb9} (hO : okO O) {n : Nat} {M0 : PM} {rec15 : Nat → Int32 → Int32 → Int32 → Int32 → Int32 → PM → qO} {grec15 : Nat → Int32 → Int32 → Int32 → Int32 → Int32 → qS → Option (Int32 × qS)} (hrec15 : ∀ (l0 : Nat) (l1 : Int32) (l2 : Int32) (l3 : Int32) (l4 : Int32) (l5 : Int32) (M : PM) (S : qS), Rp O M S → Fm O M0 M → Sim eI O M0 (rec15 l0 l1 l2 l3 l4 l5 M) (grec15 l0 l1 l2 l3 l4 l5 S)) {l0 : Nat} {l1 : Int32} {l2 : Int32} {l3 : Int32} {l4 : Int32} {l5 : Int32} {M : PM} {S : qS} (R : Rp O M S) (H : Fm O M0 M) : Sim eI O M0 (F_XModel_find_65 n rec15 l0 l1 l2 l3 l4 l5 M) (G_XModel_find_65 O n grec15 l0 l1 l2 l3 l4 l5 S) := by
  unfold F_XModel_find_65 G_XModel_find_65
  refine sim_gA (by assumption) (fun _ => ?_)
  refine sim_lI (by assumption) (fun _ => ?_)
  exact hrec15 _ _ _ _ _ _ _ _ (by assumption) (by assumption)
def G_XModel_find_15 (O : qOb9) (n : Nat) : Nat → Nat → Int32 → Int32 → Int32 → Int32 → Int32 → qS → Option (Int32 × qS)
  | 0, _, _, _, _, _, _, _ => none
  | f + 1, l0, l1, l2, l3, l4, l5, S =>
    if l5 < (0 : Int32) then
      G_XModel_find_77 O n l5 S
    else
      hA 0 O l0 3 (fun v2 =>
      hl 0 O S v2 l5 (fun v3 =>
      if v3 = l1 then
        hA 0 O l0 4 (fun v5 =>
        hl 0 O S v5 l5 (fun v6 =>
        if v6 = l2 then
          hA 0 O l0 5 (fun v8 =>
          hl 0 O S v8 l5 (fun v9 =>
          if v9 = l3 then
            hA 0 O l0 6 (fun v11 =>
            hl 0 O S v11 l5 (fun v12 =>
            if v12 = l4 then
              G_XModel_find_77 O n l5 S
            else
              G_XModel_find_65 O n (G_XModel_find_15 O n f) l0 l1 l2 l3 l4 l5 S))
          else
            G_XModel_find_65 O n (G_XModel_find_15 O n f) l0 l1 l2 l3 l4 l5 S))
        else
          G_XModel_find_65 O n (G_XModel_find_15 O n f) l0 l1 l2 l3 l4 l5 S))
      else
        G_XModel_find_65 O n (G_XModel_find_15 O n f) l0 l1 l2 l3 l4 l5 S))
set_option maxHeartbeats 4000000 in
set_option maxRecDepth 100000 in
theorem S_XModel_find_15 {O : qOb9} (hO : okO O) {n : Nat} {M0 : PM} : ∀ (f : Nat) (l0 : Nat) (l1 : Int32) (l2 : Int32) (l3 : Int32) (l4 : Int32) (l5 : Int32) (M : PM) (S : qS), Rp O M S → Fm O M0 M → Sim eI O M0 (F_XModel_find_15 n f l0 l1 l2 l3 l4 l5 M) (G_XModel_find_15 O n f l0 l1 l2 l3 l4 l5 S) := by
  intro f
  induction f with
  | zero => intro l0 l1 l2 l3 l4 l5 M S _ _; rw [G_XModel_find_15]; exact sim_none
  | succ f ih =>
    intro l0 l1 l2 l3 l4 l5 M S R H
    rw [F_XModel_find_15, G_XModel_find_15]
    refine sim_if (fun _ => ?_) (fun _ => ?_)
    exact S_XModel_find_77 hO (by assumption) (by assumption)
    refine sim_gA (by assumption) (fun _ => ?_)
    refine sim_lI (by assumption) (fun _ => ?_)
    refine sim_if (fun _ => ?_) (fun _ => ?_)
    refine sim_gA (by assumption) (fun _ => ?_)
    refine sim_lI (by assumption) (fun _ => ?_)
    refine sim_if (fun _ => ?_) (fun _ => ?_)
    refine sim_gA (by assumption) (fun _ => ?_)
    refine sim_lI (by assumption) (fun _ => ?_)
    refine sim_if (fun _ => ?_) (fun _ => ?_)
    refine sim_gA (by assumption) (fun _ => ?_)
    refine sim_lI (by assumption) (fun _ => ?_)
    refine sim_if (fun _ => ?_) (fun _ => ?_)
    exact S_XModel_find_77 hO (by assumption) (by assumption)
    exact S_XModel_find_65 hO ih (by assumption) (by assumption)
    exact S_XModel_find_65 hO ih (by assumption) (by assumption)
    exact S_XModel_find_65 hO ih (by assumption) (by assumption)
    exact S_XModel_find_65 hO ih (by assumption) (by assumption)
def G_XModel_find (O : qOb9) (n : Nat) (l0 : Nat) (l1 : Int32) (l2 : Int32) (l3 : Int32) (l4 : Int32) (S : qS) : Option (Int32 × qS) :=
  hA 0 O l0 7 (fun v1 =>
  yC (G_XModel_chainOf O n l1 l2 l3 l4 S) (fun v3 S2 =>
  hl 0 O S2 v1 v3 (fun v4 =>
  G_XModel_find_15 O n n l0 l1 l2 l3 l4 v4 S2)))
set_option maxHeartbeats 4000000 in
set_option maxRecDepth 100000 in
theorem S_XModel_find {O : qOb9} (hO : okO O) {n : Nat} {M0 : PM} {l0 : Nat} {l1 : Int32} {l2 : Int32} {l3 : Int32} {l4 : Int32} {M : PM} {S : qS} (R : Rp O M S) (H : Fm O M0 M) : Sim eI O M0 (F_XModel_find n l0 l1 l2 l3 l4 M) (G_XModel_find O n l0 l1 l2 l3 l4 S) := by
  unfold F_XModel_find G_XModel_find
  refine sim_gA (by assumption) (fun _ => ?_)
  refine sim_cI (S_XModel_chainOf hO (by assumption) (by assumption)) (fun _ _ _ _ _ => ?_)
  refine sim_lI (by assumption) (fun _ => ?_)
  exact S_XModel_find_15 hO _ _ _ _ _ _ _ _ _ (by assumption) (by assumption)
def G_XModel_told_123 (O : qOb9) (n : Nat) (l0 : Nat) (l4 : Int32) (s0 : Nat) (s1 : Int32) (s2 : Int32) (s3 : Int32) (S : qS) : Option (Int32 × qS) :=
  hk 0 O s0 (
  yC (G_XModel_add O n s0 s1 s2 s3 l4 S) (fun v2 S1 =>
  hI 0 O S1 l0 1 (fun v3 =>
  hP 0 O S1 l0 1 ((v3 + (1 : Int32))) (fun S4 =>
  some (v2, S4)))))
set_option maxHeartbeats 4000000 in
set_option maxRecDepth 100000 in
theorem S_XModel_told_123 {O : qOb9} (hO : okO O) {n : Nat} {M0 : PM} {l0 : Nat} {l4 : Int32} {s0 : Nat} {s1 : Int32} {s2 : Int32} {s3 : Int32} {M : PM} {S : qS} (R : Rp O M S) (H : Fm O M0 M) : Sim eI O M0 (F_XModel_told_123 n l0 l4 s0 s1 s2 s3 M) (G_XModel_told_123 O n l0 l4 s0 s1 s2 s3 S) := by
  unfold F_XModel_told_123 G_XModel_told_123
  refine sim_kO (by assumption) ?_
  refine sim_cI (S_XModel_add hO (by assumption) (by assumption)) (fun _ _ _ _ _ => ?_)
  refine sim_gI (by assumption) (fun _ => ?_)
  refine sim_pF (by assumption) (by assumption) (fun _ _ _ _ => ?_)
  exact sim_retI (by assumption) (by assumption)
def G_XModel_told_113 (O : qOb9) (n : Nat) (l0 : Nat) (l2 : Int32) (l3 : Int32) (l4 : Int32) (l7 : Int32) (s0 : Nat) (s1 : Int32) (s2 : Int32) (S : qS) : Option (Int32 × qS) :=
  if l7 = (0 : Int32) then
    G_XModel_told_123 O n l0 l4 s0 s1 s2 l3 S
  else
    G_XModel_told_123 O n l0 l4 s0 s1 s2 l2 S
set_option maxHeartbeats 4000000 in
set_option maxRecDepth 100000 in
theorem S_XModel_told_113 {O : qOb9} (hO : okO O) {n : Nat} {M0 : PM} {l0 : Nat} {l2 : Int32} {l3 : Int32} {l4 : Int32} {l7 : Int32} {s0 : Nat} {s1 : Int32} {s2 : Int32} {M : PM} {S : qS} (R : Rp O M S) (H : Fm O M0 M) : Sim eI O M0 (F_XModel_told_113 n l0 l2 l3 l4 l7 s0 s1 s2 M) (G_XModel_told_113 O n l0 l2 l3 l4 l7 s0 s1 s2 S) := by
  unfold F_XModel_told_113 G_XModel_told_113
  refine sim_if (fun _ => ?_) (fun _ => ?_)
  exact S_XModel_told_123 hO (by assumption) (by assumption)
  exact S_XModel_told_123 hO (by assumption) (by assumption)
def G_XModel_told_69 (O : qOb9) (n : Nat) (l0 : Nat) (l1 : Int32) (l2 : Int32) (l3 : Int32) (l4 : Int32) (l5 : Int32) (l7 : Int32) (s0 : Nat) (s1 : Int32) (s2 : Int32) (s3 : Int32) (S : qS) : Option (Int32 × qS) :=
  hk 0 O s0 (
  yC (G_XModel_find O n s0 s1 s2 s3 l4 S) (fun v2 S1 =>
  if v2 < (0 : Int32) then
    hI 0 O S1 l0 1 (fun v4 =>
    if v4 = (300 : Int32) then
      hk 0 O l0 (
      yC (G_XModel_fail O n l0 l5 S1) (fun v8 S7 =>
      some (v8, S7)))
    else
      if l7 = (0 : Int32) then
        G_XModel_told_113 O n l0 l2 l3 l4 l7 l0 l1 l2 S1
      else
        G_XModel_told_113 O n l0 l2 l3 l4 l7 l0 l1 l3 S1)
  else
    some (v2, S1)))
set_option maxHeartbeats 4000000 in
set_option maxRecDepth 100000 in
theorem S_XModel_told_69 {O : qOb9} (hO : okO O) {n : Nat} {M0 : PM} {l0 : Nat} {l1 : Int32} {l2 : Int32} {l3 : Int32} {l4 : Int32} {l5 : Int32} {l7 : Int32} {s0 : Nat} {s1 : Int32} {s2 : Int32} {s3 : Int32} {M : PM} {S : qS} (R : Rp O M S) (H : Fm O M0 M) : Sim eI O M0 (F_XModel_told_69 n l0 l1 l2 l3 l4 l5 l7 s0 s1 s2 s3 M) (G_XModel_told_69 O n l0 l1 l2 l3 l4 l5 l7 s0 s1 s2 s3 S) := by
  unfold F_XModel_told_69 G_XModel_told_69
  refine sim_kO (by assumption) ?_
  refine sim_cI (S_XModel_find hO (by assumption) (by assumption)) (fun _ _ _ _ _ => ?_)
  refine sim_if (fun _ => ?_) (fun _ => ?_)
  refine sim_gI (by assumption) (fun _ => ?_)
  refine sim_if (fun _ => ?_) (fun _ => ?_)
  refine sim_kO (by assumption) ?_
  refine sim_cI (S_XModel_fail hO (by assumption) (by assumption)) (fun _ _ _ _ _ => ?_)
  exact sim_retI (by assumption) (by assumption)
  refine sim_if (fun _ => ?_) (fun _ => ?_)
  exact S_XModel_told_113 hO (by assumption) (by assumption)
  exact S_XModel_told_113 hO (by assumption) (by assumption)
  exact sim_retI (by assumption) (by assumption)
def G_XModel_told_59 (O : qOb9) (n : Nat) (l0 : Nat) (l1 : Int32) (l2 : Int32) (l3 : Int32) (l4 : Int32) (l5 : Int32) (l7 : Int32) (s0 : Nat) (s1 : Int32) (s2 : Int32) (S : qS) : Option (Int32 × qS) :=
  if l7 = (0 : Int32) then
    G_XModel_told_69 O n l0 l1 l2 l3 l4 l5 l7 s0 s1 s2 l3 S
  else
    G_XModel_told_69 O n l0 l1 l2 l3 l4 l5 l7 s0 s1 s2 l2 S
set_option maxHeartbeats 4000000 in
set_option maxRecDepth 100000 in
theorem S_XModel_told_59 {O : qOb9} (hO : okO O) {n : Nat} {M0 : PM} {l0 : Nat} {l1 : Int32} {l2 : Int32} {l3 : Int32} {l4 : Int32} {l5 : Int32} {l7 : Int32} {s0 : Nat} {s1 : Int32} {s2 : Int32} {M : PM} {S : qS} (R : Rp O M S) (H : Fm O M0 M) : Sim eI O M0 (F_XModel_told_59 n l0 l1 l2 l3 l4 l5 l7 s0 s1 s2 M) (G_XModel_told_59 O n l0 l1 l2 l3 l4 l5 l7 s0 s1 s2 S) := by
  unfold F_XModel_told_59 G_XModel_told_59
  refine sim_if (fun _ => ?_) (fun _ => ?_)
  exact S_XModel_told_69 hO (by assumption) (by assumption)
  exact S_XModel_told_69 hO (by assumption) (by assumption)
def G_XModel_told_41 (O : qOb9) (n : Nat) (l0 : Nat) (l1 : Int32) (l2 : Int32) (l3 : Int32) (l4 : Int32) (l5 : Int32) (s0 : Int32) (S : qS) : Option (Int32 × qS) :=
  hk 0 O l0 (
  yV (G_XModel_begin O n l0 S) (fun S1 =>
  if s0 = (0 : Int32) then
    G_XModel_told_59 O n l0 l1 l2 l3 l4 l5 s0 l0 l1 l2 S1
  else
    G_XModel_told_59 O n l0 l1 l2 l3 l4 l5 s0 l0 l1 l3 S1))
set_option maxHeartbeats 4000000 in
set_option maxRecDepth 100000 in
theorem S_XModel_told_41 {O : qOb9} (hO : okO O) {n : Nat} {M0 : PM} {l0 : Nat} {l1 : Int32} {l2 : Int32} {l3 : Int32} {l4 : Int32} {l5 : Int32} {s0 : Int32} {M : PM} {S : qS} (R : Rp O M S) (H : Fm O M0 M) : Sim eI O M0 (F_XModel_told_41 n l0 l1 l2 l3 l4 l5 s0 M) (G_XModel_told_41 O n l0 l1 l2 l3 l4 l5 s0 S) := by
  unfold F_XModel_told_41 G_XModel_told_41
  refine sim_kO (by assumption) ?_
  refine sim_cV (S_XModel_begin hO (by assumption) (by assumption)) (fun _ _ _ _ => ?_)
  refine sim_if (fun _ => ?_) (fun _ => ?_)
  exact S_XModel_told_59 hO (by assumption) (by assumption)
  exact S_XModel_told_59 hO (by assumption) (by assumption)
def G_XModel_told_40 (O : qOb9) (n : Nat) (l0 : Nat) (l1 : Int32) (l2 : Int32) (l3 : Int32) (l4 : Int32) (l5 : Int32) (S : qS) : Option (Int32 × qS) :=
  G_XModel_told_41 O n l0 l1 l2 l3 l4 l5 (0 : Int32) S
set_option maxHeartbeats 4000000 in
set_option maxRecDepth 100000 in
theorem S_XModel_told_40 {O : qOb9} (hO : okO O) {n : Nat} {M0 : PM} {l0 : Nat} {l1 : Int32} {l2 : Int32} {l3 : Int32} {l4 : Int32} {l5 : Int32} {M : PM} {S : qS} (R : Rp O M S) (H : Fm O M0 M) : Sim eI O M0 (F_XModel_told_40 n l0 l1 l2 l3 l4 l5 M) (G_XModel_told_40 O n l0 l1 l2 l3 l4 l5 S) := by
  unfold F_XModel_told_40 G_XModel_told_40
  exact S_XModel_told_41 hO (by assumption) (by assumption)
def G_XModel_told_31 (O : qOb9) (n : Nat) (l0 : Nat) (l1 : Int32) (l2 : Int32) (l3 : Int32) (l4 : Int32) (l5 : Int32) (S : qS) : Option (Int32 × qS) :=
  if l2 ≤ l3 then
    G_XModel_told_40 O n l0 l1 l2 l3 l4 l5 S
  else
    G_XModel_told_41 O n l0 l1 l2 l3 l4 l5 (1 : Int32) S
set_option maxHeartbeats 4000000 in
set_option maxRecDepth 100000 in
theorem S_XModel_told_31 {O : qOb9} (hO : okO O) {n : Nat} {M0 : PM} {l0 : Nat} {l1 : Int32} {l2 : Int32} {l3 : Int32} {l4 : Int32} {l5 : Int32} {M : PM} {S : qS} (R : Rp O M S) (H : Fm O M0 M) : Sim eI O M0 (F_XModel_told_31 n l0 l1 l2 l3 l4 l5 M) (G_XModel_told_31 O n l0 l1 l2 l3 l4 l5 S) := by
  unfold F_XModel_told_31 G_XModel_told_31
  refine sim_if (fun _ => ?_) (fun _ => ?_)
  exact S_XModel_told_40 hO (by assumption) (by assumption)
  exact S_XModel_told_41 hO (by assumption) (by assumption)
def G_XModel_told (O : qOb9) (n : Nat) (l0 : Nat) (l1 : Int32) (l2 : Int32) (l3 : Int32) (l4 : Int32) (l5 : Int32) (S : qS) : Option (Int32 × qS) :=
  hk 0 O l0 (
  yC (G_XModel_plainest O n l0 l1 l2 l3 l4 S) (fun v2 S1 =>
  if v2 < (0 : Int32) then
    if l1 = (6 : Int32) then
      G_XModel_told_31 O n l0 l1 l2 l3 l4 l5 S1
    else
      if l1 = (8 : Int32) then
        G_XModel_told_31 O n l0 l1 l2 l3 l4 l5 S1
      else
        G_XModel_told_40 O n l0 l1 l2 l3 l4 l5 S1
  else
    some (v2, S1)))
set_option maxHeartbeats 4000000 in
set_option maxRecDepth 100000 in
theorem S_XModel_told {O : qOb9} (hO : okO O) {n : Nat} {M0 : PM} {l0 : Nat} {l1 : Int32} {l2 : Int32} {l3 : Int32} {l4 : Int32} {l5 : Int32} {M : PM} {S : qS} (R : Rp O M S) (H : Fm O M0 M) : Sim eI O M0 (F_XModel_told n l0 l1 l2 l3 l4 l5 M) (G_XModel_told O n l0 l1 l2 l3 l4 l5 S) := by
  unfold F_XModel_told G_XModel_told
  refine sim_kO (by assumption) ?_
  refine sim_cI (S_XModel_plainest hO (by assumption) (by assumption)) (fun _ _ _ _ _ => ?_)
  refine sim_if (fun _ => ?_) (fun _ => ?_)
  refine sim_if (fun _ => ?_) (fun _ => ?_)
  exact S_XModel_told_31 hO (by assumption) (by assumption)
  refine sim_if (fun _ => ?_) (fun _ => ?_)
  exact S_XModel_told_31 hO (by assumption) (by assumption)
  exact S_XModel_told_40 hO (by assumption) (by assumption)
  exact sim_retI (by assumption) (by assumption)
def G_XModel_apply_26 (O : qOb9) (n : Nat) (l0 : Nat) (S : qS) : Option (Int32 × qS) :=
  hk 0 O l0 (
  yC (G_XModel_fail O n l0 (1 : Int32) S) (fun v2 S1 =>
  some (v2, S1)))
set_option maxHeartbeats 4000000 in
set_option maxRecDepth 100000 in
theorem S_XModel_apply_26 {O : qOb9} (hO : okO O) {n : Nat} {M0 : PM} {l0 : Nat} {M : PM} {S : qS} (R : Rp O M S) (H : Fm O M0 M) : Sim eI O M0 (F_XModel_apply_26 n l0 M) (G_XModel_apply_26 O n l0 S) := by
  unfold F_XModel_apply_26 G_XModel_apply_26
  refine sim_kO (by assumption) ?_
  refine sim_cI (S_XModel_fail hO (by assumption) (by assumption)) (fun _ _ _ _ _ => ?_)
  exact sim_retI (by assumption) (by assumption)
def G_XModel_apply_62 (O : qOb9) (n : Nat) (l0 : Nat) (S : qS) : Option (Int32 × qS) :=
  hk 0 O l0 (
  yC (G_XModel_fail O n l0 (2 : Int32) S) (fun v2 S1 =>
  some (v2, S1)))
set_option maxHeartbeats 4000000 in
set_option maxRecDepth 100000 in
theorem S_XModel_apply_62 {O : qOb9} (hO : okO O) {n : Nat} {M0 : PM} {l0 : Nat} {M : PM} {S : qS} (R : Rp O M S) (H : Fm O M0 M) : Sim eI O M0 (F_XModel_apply_62 n l0 M) (G_XModel_apply_62 O n l0 S) := by
  unfold F_XModel_apply_62 G_XModel_apply_62
  refine sim_kO (by assumption) ?_
  refine sim_cI (S_XModel_fail hO (by assumption) (by assumption)) (fun _ _ _ _ _ => ?_)
  exact sim_retI (by assumption) (by assumption)
def G_XModel_apply_68 (O : qOb9) (n : Nat) (l0 : Nat) (l1 : Int32) (l2 : Int32) (l3 : Int32) (S : qS) : Option (Int32 × qS) :=
  hk 0 O l0 (
  yC (G_XModel_told O n l0 (5 : Int32) l2 l3 l1 (3 : Int32) S) (fun v2 S1 =>
  some (v2, S1)))
set_option maxHeartbeats 4000000 in
set_option maxRecDepth 100000 in
theorem S_XModel_apply_68 {O : qOb9} (hO : okO O) {n : Nat} {M0 : PM} {l0 : Nat} {l1 : Int32} {l2 : Int32} {l3 : Int32} {M : PM} {S : qS} (R : Rp O M S) (H : Fm O M0 M) : Sim eI O M0 (F_XModel_apply_68 n l0 l1 l2 l3 M) (G_XModel_apply_68 O n l0 l1 l2 l3 S) := by
  unfold F_XModel_apply_68 G_XModel_apply_68
  refine sim_kO (by assumption) ?_
  refine sim_cI (S_XModel_told hO (by assumption) (by assumption)) (fun _ _ _ _ _ => ?_)
  exact sim_retI (by assumption) (by assumption)
def G_XModel_apply_32 (O : qOb9) (n : Nat) (l0 : Nat) (l1 : Int32) (l2 : Int32) (l3 : Int32) (S : qS) : Option (Int32 × qS) :=
  yC (G_XModel_within O n l1 (0 : Int32) (7 : Int32) S) (fun v2 S1 =>
  if v2 = (0 : Int32) then
    G_XModel_apply_62 O n l0 S1
  else
    hk 0 O l0 (
    yC (G_XModel_isWord O n l0 l2 S1) (fun v5 S4 =>
    if v5 = (0 : Int32) then
      G_XModel_apply_62 O n l0 S4
    else
      if l3 < (0 : Int32) then
        G_XModel_apply_68 O n l0 l1 l2 l3 S4
      else
        hk 0 O l0 (
        yC (G_XModel_isWord O n l0 l3 S4) (fun v9 S8 =>
        if v9 = (0 : Int32) then
          G_XModel_apply_62 O n l0 S8
        else
          G_XModel_apply_68 O n l0 l1 l2 l3 S8)))))
set_option maxHeartbeats 4000000 in
set_option maxRecDepth 100000 in
theorem S_XModel_apply_32 {O : qOb9} (hO : okO O) {n : Nat} {M0 : PM} {l0 : Nat} {l1 : Int32} {l2 : Int32} {l3 : Int32} {M : PM} {S : qS} (R : Rp O M S) (H : Fm O M0 M) : Sim eI O M0 (F_XModel_apply_32 n l0 l1 l2 l3 M) (G_XModel_apply_32 O n l0 l1 l2 l3 S) := by
  unfold F_XModel_apply_32 G_XModel_apply_32
  refine sim_cI (S_XModel_within hO (by assumption) (by assumption)) (fun _ _ _ _ _ => ?_)
  refine sim_if (fun _ => ?_) (fun _ => ?_)
  exact S_XModel_apply_62 hO (by assumption) (by assumption)
  refine sim_kO (by assumption) ?_
  refine sim_cI (S_XModel_isWord hO (by assumption) (by assumption)) (fun _ _ _ _ _ => ?_)
  refine sim_if (fun _ => ?_) (fun _ => ?_)
  exact S_XModel_apply_62 hO (by assumption) (by assumption)
  refine sim_if (fun _ => ?_) (fun _ => ?_)
  exact S_XModel_apply_68 hO (by assumption) (by assumption)
  refine sim_kO (by assumption) ?_
  refine sim_cI (S_XModel_isWord hO (by assumption) (by assumption)) (fun _ _ _ _ _ => ?_)
  refine sim_if (fun _ => ?_) (fun _ => ?_)
  exact S_XModel_apply_62 hO (by assumption) (by assumption)
  exact S_XModel_apply_68 hO (by assumption) (by assumption)
def G_XModel_apply (O : qOb9) (n : Nat) (l0 : Nat) (l1 : Int32) (l2 : Int32) (l3 : Int32) (S : qS) : Option (Int32 × qS) :=
  hP 0 O S l0 0 ((0 : Int32)) (fun S1 =>
  hk 0 O l0 (
  yC (G_XModel_isNode O n l0 l2 S1) (fun v3 S2 =>
  if v3 = (0 : Int32) then
    G_XModel_apply_26 O n l0 S2
  else
    if l3 = (-1 : Int32) then
      G_XModel_apply_32 O n l0 l1 l2 l3 S2
    else
      hk 0 O l0 (
      yC (G_XModel_isNode O n l0 l3 S2) (fun v7 S6 =>
      if v7 = (0 : Int32) then
        G_XModel_apply_26 O n l0 S6
      else
        G_XModel_apply_32 O n l0 l1 l2 l3 S6)))))
set_option maxHeartbeats 4000000 in
set_option maxRecDepth 100000 in
theorem S_XModel_apply {O : qOb9} (hO : okO O) {n : Nat} {M0 : PM} {l0 : Nat} {l1 : Int32} {l2 : Int32} {l3 : Int32} {M : PM} {S : qS} (R : Rp O M S) (H : Fm O M0 M) : Sim eI O M0 (F_XModel_apply n l0 l1 l2 l3 M) (G_XModel_apply O n l0 l1 l2 l3 S) := by
  unfold F_XModel_apply G_XModel_apply
  refine sim_pF (by assumption) (by assumption) (fun _ _ _ _ => ?_)
  refine sim_kO (by assumption) ?_
  refine sim_cI (S_XModel_isNode hO (by assumption) (by assumption)) (fun _ _ _ _ _ => ?_)
  refine sim_if (fun _ => ?_) (fun _ => ?_)
  exact S_XModel_apply_26 hO (by assumption) (by assumption)
  refine sim_if (fun _ => ?_) (fun _ => ?_)
  exact S_XModel_apply_32 hO (by assumption) (by assumption)
  refine sim_kO (by assumption) ?_
  refine sim_cI (S_XModel_isNode hO (by assumption) (by assumption)) (fun _ _ _ _ _ => ?_)
  refine sim_if (fun _ => ?_) (fun _ => ?_)
  exact S_XModel_apply_26 hO (by assumption) (by assumption)
  exact S_XModel_apply_32 hO (by assumption) (by assumption)
def G_XModel_equal_21 (O : qOb9) (n : Nat) (l0 : Nat) (S : qS) : Option (Int32 × qS) :=
  hk 0 O l0 (
  yC (G_XModel_fail O n l0 (1 : Int32) S) (fun v2 S1 =>
  some (v2, S1)))
set_option maxHeartbeats 4000000 in
set_option maxRecDepth 100000 in
theorem S_XModel_equal_21 {O : qOb9} (hO : okO O) {n : Nat} {M0 : PM} {l0 : Nat} {M : PM} {S : qS} (R : Rp O M S) (H : Fm O M0 M) : Sim eI O M0 (F_XModel_equal_21 n l0 M) (G_XModel_equal_21 O n l0 S) := by
  unfold F_XModel_equal_21 G_XModel_equal_21
  refine sim_kO (by assumption) ?_
  refine sim_cI (S_XModel_fail hO (by assumption) (by assumption)) (fun _ _ _ _ _ => ?_)
  exact sim_retI (by assumption) (by assumption)
def G_XModel_equal_43 (O : qOb9) (n : Nat) (l0 : Nat) (S : qS) : Option (Int32 × qS) :=
  hk 0 O l0 (
  yC (G_XModel_fail O n l0 (2 : Int32) S) (fun v2 S1 =>
  some (v2, S1)))
set_option maxHeartbeats 4000000 in
set_option maxRecDepth 100000 in
theorem S_XModel_equal_43 {O : qOb9} (hO : okO O) {n : Nat} {M0 : PM} {l0 : Nat} {M : PM} {S : qS} (R : Rp O M S) (H : Fm O M0 M) : Sim eI O M0 (F_XModel_equal_43 n l0 M) (G_XModel_equal_43 O n l0 S) := by
  unfold F_XModel_equal_43 G_XModel_equal_43
  refine sim_kO (by assumption) ?_
  refine sim_cI (S_XModel_fail hO (by assumption) (by assumption)) (fun _ _ _ _ _ => ?_)
  exact sim_retI (by assumption) (by assumption)
def G_XModel_equal (O : qOb9) (n : Nat) (l0 : Nat) (l1 : Int32) (l2 : Int32) (S : qS) : Option (Int32 × qS) :=
  hP 0 O S l0 0 ((0 : Int32)) (fun S1 =>
  hk 0 O l0 (
  yC (G_XModel_isNode O n l0 l1 S1) (fun v3 S2 =>
  if v3 = (0 : Int32) then
    G_XModel_equal_21 O n l0 S2
  else
    hk 0 O l0 (
    yC (G_XModel_isNode O n l0 l2 S2) (fun v6 S5 =>
    if v6 = (0 : Int32) then
      G_XModel_equal_21 O n l0 S5
    else
      hk 0 O l0 (
      yC (G_XModel_isWord O n l0 l1 S5) (fun v9 S8 =>
      if v9 = (0 : Int32) then
        G_XModel_equal_43 O n l0 S8
      else
        hk 0 O l0 (
        yC (G_XModel_isWord O n l0 l2 S8) (fun v12 S11 =>
        if v12 = (0 : Int32) then
          G_XModel_equal_43 O n l0 S11
        else
          hk 0 O l0 (
          yC (G_XModel_told O n l0 (6 : Int32) l1 l2 (-1 : Int32) (3 : Int32) S11) (fun v15 S14 =>
          some (v15, S14))))))))))))
set_option maxHeartbeats 4000000 in
set_option maxRecDepth 100000 in
theorem S_XModel_equal {O : qOb9} (hO : okO O) {n : Nat} {M0 : PM} {l0 : Nat} {l1 : Int32} {l2 : Int32} {M : PM} {S : qS} (R : Rp O M S) (H : Fm O M0 M) : Sim eI O M0 (F_XModel_equal n l0 l1 l2 M) (G_XModel_equal O n l0 l1 l2 S) := by
  unfold F_XModel_equal G_XModel_equal
  refine sim_pF (by assumption) (by assumption) (fun _ _ _ _ => ?_)
  refine sim_kO (by assumption) ?_
  refine sim_cI (S_XModel_isNode hO (by assumption) (by assumption)) (fun _ _ _ _ _ => ?_)
  refine sim_if (fun _ => ?_) (fun _ => ?_)
  exact S_XModel_equal_21 hO (by assumption) (by assumption)
  refine sim_kO (by assumption) ?_
  refine sim_cI (S_XModel_isNode hO (by assumption) (by assumption)) (fun _ _ _ _ _ => ?_)
  refine sim_if (fun _ => ?_) (fun _ => ?_)
  exact S_XModel_equal_21 hO (by assumption) (by assumption)
  refine sim_kO (by assumption) ?_
  refine sim_cI (S_XModel_isWord hO (by assumption) (by assumption)) (fun _ _ _ _ _ => ?_)
  refine sim_if (fun _ => ?_) (fun _ => ?_)
  exact S_XModel_equal_43 hO (by assumption) (by assumption)
  refine sim_kO (by assumption) ?_
  refine sim_cI (S_XModel_isWord hO (by assumption) (by assumption)) (fun _ _ _ _ _ => ?_)
  refine sim_if (fun _ => ?_) (fun _ => ?_)
  exact S_XModel_equal_43 hO (by assumption) (by assumption)
  refine sim_kO (by assumption) ?_
  refine sim_cI (S_XModel_told hO (by assumption) (by assumption)) (fun _ _ _ _ _ => ?_)
  exact sim_retI (by assumption) (by assumption)
def G_XModel_not (O : qOb9) (n : Nat) (l0 : Nat) (l1 : Int32) (S : qS) : Option (Int32 × qS) :=
  hP 0 O S l0 0 ((0 : Int32)) (fun S1 =>
  hk 0 O l0 (
  yC (G_XModel_isNode O n l0 l1 S1) (fun v3 S2 =>
  if v3 = (0 : Int32) then
    hk 0 O l0 (
    yC (G_XModel_fail O n l0 (1 : Int32) S2) (fun v13 S12 =>
    some (v13, S12)))
  else
    hk 0 O l0 (
    yC (G_XModel_isWord O n l0 l1 S2) (fun v6 S5 =>
    if v6 = (0 : Int32) then
      hk 0 O l0 (
      yC (G_XModel_told O n l0 (7 : Int32) l1 (-1 : Int32) (-1 : Int32) (3 : Int32) S5) (fun v9 S8 =>
      some (v9, S8)))
    else
      hk 0 O l0 (
      yC (G_XModel_fail O n l0 (2 : Int32) S5) (fun v11 S10 =>
      some (v11, S10))))))))
set_option maxHeartbeats 4000000 in
set_option maxRecDepth 100000 in
theorem S_XModel_not {O : qOb9} (hO : okO O) {n : Nat} {M0 : PM} {l0 : Nat} {l1 : Int32} {M : PM} {S : qS} (R : Rp O M S) (H : Fm O M0 M) : Sim eI O M0 (F_XModel_not n l0 l1 M) (G_XModel_not O n l0 l1 S) := by
  unfold F_XModel_not G_XModel_not
  refine sim_pF (by assumption) (by assumption) (fun _ _ _ _ => ?_)
  refine sim_kO (by assumption) ?_
  refine sim_cI (S_XModel_isNode hO (by assumption) (by assumption)) (fun _ _ _ _ _ => ?_)
  refine sim_if (fun _ => ?_) (fun _ => ?_)
  refine sim_kO (by assumption) ?_
  refine sim_cI (S_XModel_fail hO (by assumption) (by assumption)) (fun _ _ _ _ _ => ?_)
  exact sim_retI (by assumption) (by assumption)
  refine sim_kO (by assumption) ?_
  refine sim_cI (S_XModel_isWord hO (by assumption) (by assumption)) (fun _ _ _ _ _ => ?_)
  refine sim_if (fun _ => ?_) (fun _ => ?_)
  refine sim_kO (by assumption) ?_
  refine sim_cI (S_XModel_told hO (by assumption) (by assumption)) (fun _ _ _ _ _ => ?_)
  exact sim_retI (by assumption) (by assumption)
  refine sim_kO (by assumption) ?_
  refine sim_cI (S_XModel_fail hO (by assumption) (by assumption)) (fun _ _ _ _ _ => ?_)
  exact sim_retI (by assumption) (by assumption)
def G_XModel_both_21 (O : qOb9) (n : Nat) (l0 : Nat) (S : qS) : Option (Int32 × qS) :=
  hk 0 O l0 (
  yC (G_XModel_fail O n l0 (1 : Int32) S) (fun v2 S1 =>
  some (v2, S1)))
set_option maxHeartbeats 4000000 in
set_option maxRecDepth 100000 in
theorem S_XModel_both_21 {O : qOb9} (hO : okO O) {n : Nat} {M0 : PM} {l0 : Nat} {M : PM} {S : qS} (R : Rp O M S) (H : Fm O M0 M) : Sim eI O M0 (F_XModel_both_21 n l0 M) (G_XModel_both_21 O n l0 S) := by
  unfold F_XModel_both_21 G_XModel_both_21
  refine sim_kO (by assumption) ?_
  refine sim_cI (S_XModel_fail hO (by assumption) (by assumption)) (fun _ _ _ _ _ => ?_)
  exact sim_retI (by assumption) (by assumption)
def G_XModel_both_43 (O : qOb9) (n : Nat) (l0 : Nat) (S : qS) : Option (Int32 × qS) :=
  hk 0 O l0 (
  yC (G_XModel_fail O n l0 (2 : Int32) S) (fun v2 S1 =>
  some (v2, S1)))
set_option maxHeartbeats 4000000 in
set_option maxRecDepth 100000 in
theorem S_XModel_both_43 {O : qOb9} (hO : okO O) {n : Nat} {M0 : PM} {l0 : Nat} {M : PM} {S : qS} (R : Rp O M S) (H : Fm O M0 M) : Sim eI O M0 (F_XModel_both_43 n l0 M) (G_XModel_both_43 O n l0 S) := by
  unfold F_XModel_both_43 G_XModel_both_43
  refine sim_kO (by assumption) ?_
  refine sim_cI (S_XModel_fail hO (by assumption) (by assumption)) (fun _ _ _ _ _ => ?_)
  exact sim_retI (by assumption) (by assumption)
def G_XModel_both (O : qOb9) (n : Nat) (l0 : Nat) (l1 : Int32) (l2 : Int32) (S : qS) : Option (Int32 × qS) :=
  hP 0 O S l0 0 ((0 : Int32)) (fun S1 =>
  hk 0 O l0 (
  yC (G_XModel_isNode O n l0 l1 S1) (fun v3 S2 =>
  if v3 = (0 : Int32) then
    G_XModel_both_21 O n l0 S2
  else
    hk 0 O l0 (
    yC (G_XModel_isNode O n l0 l2 S2) (fun v6 S5 =>
    if v6 = (0 : Int32) then
      G_XModel_both_21 O n l0 S5
    else
      hk 0 O l0 (
      yC (G_XModel_isWord O n l0 l1 S5) (fun v9 S8 =>
      if v9 = (0 : Int32) then
        hk 0 O l0 (
        yC (G_XModel_isWord O n l0 l2 S8) (fun v12 S11 =>
        if v12 = (0 : Int32) then
          hk 0 O l0 (
          yC (G_XModel_told O n l0 (8 : Int32) l1 l2 (-1 : Int32) (3 : Int32) S11) (fun v15 S14 =>
          some (v15, S14)))
        else
          G_XModel_both_43 O n l0 S11))
      else
        G_XModel_both_43 O n l0 S8)))))))
set_option maxHeartbeats 4000000 in
set_option maxRecDepth 100000 in
theorem S_XModel_both {O : qOb9} (hO : okO O) {n : Nat} {M0 : PM} {l0 : Nat} {l1 : Int32} {l2 : Int32} {M : PM} {S : qS} (R : Rp O M S) (H : Fm O M0 M) : Sim eI O M0 (F_XModel_both n l0 l1 l2 M) (G_XModel_both O n l0 l1 l2 S) := by
  unfold F_XModel_both G_XModel_both
  refine sim_pF (by assumption) (by assumption) (fun _ _ _ _ => ?_)
  refine sim_kO (by assumption) ?_
  refine sim_cI (S_XModel_isNode hO (by assumption) (by assumption)) (fun _ _ _ _ _ => ?_)
  refine sim_if (fun _ => ?_) (fun _ => ?_)
  exact S_XModel_both_21 hO (by assumption) (by assumption)
  refine sim_kO (by assumption) ?_
  refine sim_cI (S_XModel_isNode hO (by assumption) (by assumption)) (fun _ _ _ _ _ => ?_)
  refine sim_if (fun _ => ?_) (fun _ => ?_)
  exact S_XModel_both_21 hO (by assumption) (by assumption)
  refine sim_kO (by assumption) ?_
  refine sim_cI (S_XModel_isWord hO (by assumption) (by assumption)) (fun _ _ _ _ _ => ?_)
  refine sim_if (fun _ => ?_) (fun _ => ?_)
  refine sim_kO (by assumption) ?_
  refine sim_cI (S_XModel_isWord hO (by assumption) (by assumption)) (fun _ _ _ _ _ => ?_)
  refine sim_if (fun _ => ?_) (fun _ => ?_)
  refine sim_kO (by assumption) ?_
  refine sim_cI (S_XModel_told hO (by assumption) (by assumption)) (fun _ _ _ _ _ => ?_)
  exact sim_retI (by assumption) (by assumption)
  exact S_XModel_both_43 hO (by assumption) (by assumption)
  exact S_XModel_both_43 hO (by assumption) (by assumption)
def G_XModel_choice_29 (O : qOb9) (n : Nat) (l0 : Nat) (S : qS) : Option (Int32 × qS) :=
  hk 0 O l0 (
  yC (G_XModel_fail O n l0 (1 : Int32) S) (fun v2 S1 =>
  some (v2, S1)))
set_option maxHeartbeats 4000000 in
set_option maxRecDepth 100000 in
theorem S_XModel_choice_29 {O : qOb9} (hO : okO O) {n : Nat} {M0 : PM} {l0 : Nat} {M : PM} {S : qS} (R : Rp O M S) (H : Fm O M0 M) : Sim eI O M0 (F_XModel_choice_29 n l0 M) (G_XModel_choice_29 O n l0 S) := by
  unfold F_XModel_choice_29 G_XModel_choice_29
  refine sim_kO (by assumption) ?_
  refine sim_cI (S_XModel_fail hO (by assumption) (by assumption)) (fun _ _ _ _ _ => ?_)
  exact sim_retI (by assumption) (by assumption)
def G_XModel_choice_56 (O : qOb9) (n : Nat) (l0 : Nat) (S : qS) : Option (Int32 × qS) :=
  hk 0 O l0 (
  yC (G_XModel_fail O n l0 (2 : Int32) S) (fun v2 S1 =>
  some (v2, S1)))
set_option maxHeartbeats 4000000 in
set_option maxRecDepth 100000 in
theorem S_XModel_choice_56 {O : qOb9} (hO : okO O) {n : Nat} {M0 : PM} {l0 : Nat} {M : PM} {S : qS} (R : Rp O M S) (H : Fm O M0 M) : Sim eI O M0 (F_XModel_choice_56 n l0 M) (G_XModel_choice_56 O n l0 S) := by
  unfold F_XModel_choice_56 G_XModel_choice_56
  refine sim_kO (by assumption) ?_
  refine sim_cI (S_XModel_fail hO (by assumption) (by assumption)) (fun _ _ _ _ _ => ?_)
  exact sim_retI (by assumption) (by assumption)
def G_XModel_choice (O : qOb9) (n : Nat) (l0 : Nat) (l1 : Int32) (l2 : Int32) (l3 : Int32) (S : qS) : Option (Int32 × qS) :=
  hP 0 O S l0 0 ((0 : Int32)) (fun S1 =>
  hk 0 O l0 (
  yC (G_XModel_isNode O n l0 l1 S1) (fun v3 S2 =>
  if v3 = (0 : Int32) then
    G_XModel_choice_29 O n l0 S2
  else
    hk 0 O l0 (
    yC (G_XModel_isNode O n l0 l2 S2) (fun v6 S5 =>
    if v6 = (0 : Int32) then
      G_XModel_choice_29 O n l0 S5
    else
      hk 0 O l0 (
      yC (G_XModel_isNode O n l0 l3 S5) (fun v9 S8 =>
      if v9 = (0 : Int32) then
        G_XModel_choice_29 O n l0 S8
      else
        hk 0 O l0 (
        yC (G_XModel_isWord O n l0 l1 S8) (fun v12 S11 =>
        if v12 = (0 : Int32) then
          hk 0 O l0 (
          yC (G_XModel_isWord O n l0 l2 S11) (fun v15 S14 =>
          hk 0 O l0 (
          yC (G_XModel_isWord O n l0 l3 S14) (fun v17 S16 =>
          if v15 = v17 then
            hk 0 O l0 (
            yC (G_XModel_told O n l0 (9 : Int32) l1 l2 l3 (3 : Int32) S16) (fun v20 S19 =>
            some (v20, S19)))
          else
            G_XModel_choice_56 O n l0 S16))))
        else
          G_XModel_choice_56 O n l0 S11)))))))))
set_option maxHeartbeats 4000000 in
set_option maxRecDepth 100000 in
theorem S_XModel_choice {O : qOb9} (hO : okO O) {n : Nat} {M0 : PM} {l0 : Nat} {l1 : Int32} {l2 : Int32} {l3 : Int32} {M : PM} {S : qS} (R : Rp O M S) (H : Fm O M0 M) : Sim eI O M0 (F_XModel_choice n l0 l1 l2 l3 M) (G_XModel_choice O n l0 l1 l2 l3 S) := by
  unfold F_XModel_choice G_XModel_choice
  refine sim_pF (by assumption) (by assumption) (fun _ _ _ _ => ?_)
  refine sim_kO (by assumption) ?_
  refine sim_cI (S_XModel_isNode hO (by assumption) (by assumption)) (fun _ _ _ _ _ => ?_)
  refine sim_if (fun _ => ?_) (fun _ => ?_)
  exact S_XModel_choice_29 hO (by assumption) (by assumption)
  refine sim_kO (by assumption) ?_
  refine sim_cI (S_XModel_isNode hO (by assumption) (by assumption)) (fun _ _ _ _ _ => ?_)
  refine sim_if (fun _ => ?_) (fun _ => ?_)
  exact S_XModel_choice_29 hO (by assumption) (by assumption)
  refine sim_kO (by assumption) ?_
  refine sim_cI (S_XModel_isNode hO (by assumption) (by assumption)) (fun _ _ _ _ _ => ?_)
  refine sim_if (fun _ => ?_) (fun _ => ?_)
  exact S_XModel_choice_29 hO (by assumption) (by assumption)
  refine sim_kO (by assumption) ?_
  refine sim_cI (S_XModel_isWord hO (by assumption) (by assumption)) (fun _ _ _ _ _ => ?_)
  refine sim_if (fun _ => ?_) (fun _ => ?_)
  refine sim_kO (by assumption) ?_
  refine sim_cI (S_XModel_isWord hO (by assumption) (by assumption)) (fun _ _ _ _ _ => ?_)
  refine sim_kO (by assumption) ?_
  refine sim_cI (S_XModel_isWord hO (by assumption) (by assumption)) (fun _ _ _ _ _ => ?_)
  refine sim_if (fun _ => ?_) (fun _ => ?_)
  refine sim_kO (by assumption) ?_
  refine sim_cI (S_XModel_told hO (by assumption) (by assumption)) (fun _ _ _ _ _ => ?_)
  exact sim_retI (by assumption) (by assumption)
  exact S_XModel_choice_56 hO (by assumption) (by assumption)
  exact S_XModel_choice_56 hO (by assumption) (by assumption)
def G_XModel_isElement (O : qOb9) (n : Nat) (l0 : Nat) (l1 : Int32) (S : qS) : Option (Int32 × qS) :=
  hI 0 O S l0 9 (fun v1 =>
  yC (G_XModel_within O n l1 (0 : Int32) (v1 - (1 : Int32)) S) (fun v3 S2 =>
  hz v3 S2))
set_option maxHeartbeats 4000000 in
set_option maxRecDepth 100000 in
theorem S_XModel_isElement {O : qOb9} (hO : okO O) {n : Nat} {M0 : PM} {l0 : Nat} {l1 : Int32} {M : PM} {S : qS} (R : Rp O M S) (H : Fm O M0 M) : Sim eI O M0 (F_XModel_isElement n l0 l1 M) (G_XModel_isElement O n l0 l1 S) := by
  unfold F_XModel_isElement G_XModel_isElement
  refine sim_gI (by assumption) (fun _ => ?_)
  refine sim_cI (S_XModel_within hO (by assumption) (by assumption)) (fun _ _ _ _ _ => ?_)
  exact sim_rZ (by assumption) (by assumption)
def G_XModel_isOfSort_33 (O : qOb9) (n : Nat) (s0 : Int32) (S : qS) : Option (Int32 × qS) :=
  hz s0 S
set_option maxHeartbeats 4000000 in
set_option maxRecDepth 100000 in
theorem S_XModel_isOfSort_33 {O : qOb9} (hO : okO O) {n : Nat} {M0 : PM} {s0 : Int32} {M : PM} {S : qS} (R : Rp O M S) (H : Fm O M0 M) : Sim eI O M0 (F_XModel_isOfSort_33 n s0 M) (G_XModel_isOfSort_33 O n s0 S) := by
  unfold F_XModel_isOfSort_33 G_XModel_isOfSort_33
  exact sim_rZ (by assumption) (by assumption)
def G_XModel_isOfSort_25 (O : qOb9) (n : Nat) (s0 : Int32) (s1 : Int32) (S : qS) : Option (Int32 × qS) :=
  if s0 = s1 then
    G_XModel_isOfSort_33 O n (1 : Int32) S
  else
    G_XModel_isOfSort_33 O n (0 : Int32) S
set_option maxHeartbeats 4000000 in
set_option maxRecDepth 100000 in
theorem S_XModel_isOfSort_25 {O : qOb9} (hO : okO O) {n : Nat} {M0 : PM} {s0 : Int32} {s1 : Int32} {M : PM} {S : qS} (R : Rp O M S) (H : Fm O M0 M) : Sim eI O M0 (F_XModel_isOfSort_25 n s0 s1 M) (G_XModel_isOfSort_25 O n s0 s1 S) := by
  unfold F_XModel_isOfSort_25 G_XModel_isOfSort_25
  refine sim_if (fun _ => ?_) (fun _ => ?_)
  exact S_XModel_isOfSort_33 hO (by assumption) (by assumption)
  exact S_XModel_isOfSort_33 hO (by assumption) (by assumption)
def G_XModel_isOfSort (O : qOb9) (n : Nat) (l0 : Nat) (l1 : Int32) (l2 : Int32) (S : qS) : Option (Int32 × qS) :=
  hk 0 O l0 (
  yC (G_XModel_isWord O n l0 l2 S) (fun v2 S1 =>
  hA 0 O l0 3 (fun v3 =>
  hA 0 O l0 11 (fun v4 =>
  hl 0 O S1 v4 l1 (fun v5 =>
  hl 0 O S1 v3 v5 (fun v6 =>
  if v6 = (3 : Int32) then
    G_XModel_isOfSort_25 O n v2 (1 : Int32) S1
  else
    G_XModel_isOfSort_25 O n v2 (0 : Int32) S1))))))
set_option maxHeartbeats 4000000 in
set_option maxRecDepth 100000 in
theorem S_XModel_isOfSort {O : qOb9} (hO : okO O) {n : Nat} {M0 : PM} {l0 : Nat} {l1 : Int32} {l2 : Int32} {M : PM} {S : qS} (R : Rp O M S) (H : Fm O M0 M) : Sim eI O M0 (F_XModel_isOfSort n l0 l1 l2 M) (G_XModel_isOfSort O n l0 l1 l2 S) := by
  unfold F_XModel_isOfSort G_XModel_isOfSort
  refine sim_kO (by assumption) ?_
  refine sim_cI (S_XModel_isWord hO (by assumption) (by assumption)) (fun _ _ _ _ _ => ?_)
  refine sim_gA (by assumption) (fun _ => ?_)
  refine sim_gA (by assumption) (fun _ => ?_)
  refine sim_lI (by assumption) (fun _ => ?_)
  refine sim_lI (by assumption) (fun _ => ?_)
  refine sim_if (fun _ => ?_) (fun _ => ?_)
  exact S_XModel_isOfSort_25 hO (by assumption) (by assumption)
  exact S_XModel_isOfSort_25 hO (by assumption) (by assumption)
def G_XModel_next_35 (O : qOb9) (n : Nat) (l0 : Nat) (l1 : Int32) (l2 : Int32) (s0 : Nat) (s1 : Int32) (S : qS) : Option (Int32 × qS) :=
  hP 0 O S s0 0 (s1) (fun S1 =>
  hI 0 O S1 l0 0 (fun v2 =>
  if v2 ≤ (0 : Int32) then
    hA 0 O l0 13 (fun v4 =>
    hl 1 O S1 v4 l1 (fun v5 =>
    hA 0 O l0 12 (fun v6 =>
    hw 0 O S1 v6 l1 l2 (fun S7 =>
    hA 0 O l0 13 (fun v8 =>
    hw 1 O S7 v8 l1 (vp_nar .boolean (1 : Int32)) (fun S9 =>
    hz v5 S9))))))
  else
    some ((0 : Int32), S1)))
set_option maxHeartbeats 4000000 in
set_option maxRecDepth 100000 in
theorem S_XModel_next_35 {O : qOb9} (hO : okO O) {n : Nat} {M0 : PM} {l0 : Nat} {l1 : Int32} {l2 : Int32} {s0 : Nat} {s1 : Int32} {M : PM} {S : qS} (R : Rp O M S) (H : Fm O M0 M) : Sim eI O M0 (F_XModel_next_35 n l0 l1 l2 s0 s1 M) (G_XModel_next_35 O n l0 l1 l2 s0 s1 S) := by
  unfold F_XModel_next_35 G_XModel_next_35
  refine sim_pF (by assumption) (by assumption) (fun _ _ _ _ => ?_)
  refine sim_gI (by assumption) (fun _ => ?_)
  refine sim_if (fun _ => ?_) (fun _ => ?_)
  refine sim_gA (by assumption) (fun _ => ?_)
  refine sim_lZ (by assumption) (fun _ => ?_)
  refine sim_gA (by assumption) (fun _ => ?_)
  refine sim_wI hO (by assumption) (by assumption) (fun _ _ _ _ => ?_)
  refine sim_gA (by assumption) (fun _ => ?_)
  refine sim_wZ hO (by assumption) (by assumption) (fun _ _ _ _ => ?_)
  exact sim_rZ (by assumption) (by assumption)
  exact sim_retI (by assumption) (by assumption)
def G_XModel_next_17 (O : qOb9) (n : Nat) (l0 : Nat) (l1 : Int32) (l2 : Int32) (s0 : Nat) (S : qS) : Option (Int32 × qS) :=
  G_XModel_next_35 O n l0 l1 l2 s0 (1 : Int32) S
set_option maxHeartbeats 4000000 in
set_option maxRecDepth 100000 in
theorem S_XModel_next_17 {O : qOb9} (hO : okO O) {n : Nat} {M0 : PM} {l0 : Nat} {l1 : Int32} {l2 : Int32} {s0 : Nat} {M : PM} {S : qS} (R : Rp O M S) (H : Fm O M0 M) : Sim eI O M0 (F_XModel_next_17 n l0 l1 l2 s0 M) (G_XModel_next_17 O n l0 l1 l2 s0 S) := by
  unfold F_XModel_next_17 G_XModel_next_17
  exact S_XModel_next_35 hO (by assumption) (by assumption)
def G_XModel_next (O : qOb9) (n : Nat) (l0 : Nat) (l1 : Int32) (l2 : Int32) (S : qS) : Option (Int32 × qS) :=
  hk 0 O l0 (
  yC (G_XModel_isElement O n l0 l1 S) (fun v2 S1 =>
  if v2 = (0 : Int32) then
    G_XModel_next_17 O n l0 l1 l2 l0 S1
  else
    hk 0 O l0 (
    yC (G_XModel_isNode O n l0 l2 S1) (fun v5 S4 =>
    if v5 = (0 : Int32) then
      G_XModel_next_17 O n l0 l1 l2 l0 S4
    else
      hk 0 O l0 (
      yC (G_XModel_isOfSort O n l0 l1 l2 S4) (fun v8 S7 =>
      if v8 = (0 : Int32) then
        G_XModel_next_35 O n l0 l1 l2 l0 (2 : Int32) S7
      else
        G_XModel_next_35 O n l0 l1 l2 l0 (0 : Int32) S7))))))
set_option maxHeartbeats 4000000 in
set_option maxRecDepth 100000 in
theorem S_XModel_next {O : qOb9} (hO : okO O) {n : Nat} {M0 : PM} {l0 : Nat} {l1 : Int32} {l2 : Int32} {M : PM} {S : qS} (R : Rp O M S) (H : Fm O M0 M) : Sim eI O M0 (F_XModel_next n l0 l1 l2 M) (G_XModel_next O n l0 l1 l2 S) := by
  unfold F_XModel_next G_XModel_next
  refine sim_kO (by assumption) ?_
  refine sim_cI (S_XModel_isElement hO (by assumption) (by assumption)) (fun _ _ _ _ _ => ?_)
  refine sim_if (fun _ => ?_) (fun _ => ?_)
  exact S_XModel_next_17 hO (by assumption) (by assumption)
  refine sim_kO (by assumption) ?_
  refine sim_cI (S_XModel_isNode hO (by assumption) (by assumption)) (fun _ _ _ _ _ => ?_)
  refine sim_if (fun _ => ?_) (fun _ => ?_)
  exact S_XModel_next_17 hO (by assumption) (by assumption)
  refine sim_kO (by assumption) ?_
  refine sim_cI (S_XModel_isOfSort hO (by assumption) (by assumption)) (fun _ _ _ _ _ => ?_)
  refine sim_if (fun _ => ?_) (fun _ => ?_)
  exact S_XModel_next_35 hO (by assumption) (by assumption)
  exact S_XModel_next_35 hO (by assumption) (by assumption)
def G_XModel_unmark_2 (O : qOb9) (n : Nat) : Nat → Nat → Int32 → qS → Option (Unit × qS)
  | 0, _, _, _ => none
  | f + 1, l0, l1, S =>
    hI 0 O S l0 2 (fun v1 =>
    if v1 ≤ l1 then
      some ((), S)
    else
      hA 0 O l0 21 (fun v3 =>
      hw 1 O S v3 l1 (vp_nar .boolean (0 : Int32)) (fun S4 =>
      hB (l1 + (1 : Int32)) (fun v5 =>
      (G_XModel_unmark_2 O n f) l0 v5 S4))))
set_option maxHeartbeats 4000000 in
set_option maxRecDepth 100000 in
theorem S_XModel_unmark_2 {O : qOb9} (hO : okO O) {n : Nat} {M0 : PM} : ∀ (f : Nat) (l0 : Nat) (l1 : Int32) (M : PM) (S : qS), Rp O M S → Fm O M0 M → Sim eV O M0 (F_XModel_unmark_2 n f l0 l1 M) (G_XModel_unmark_2 O n f l0 l1 S) := by
  intro f
  induction f with
  | zero => intro l0 l1 M S _ _; rw [G_XModel_unmark_2]; exact sim_none
  | succ f ih =>
    intro l0 l1 M S R H
    rw [F_XModel_unmark_2, G_XModel_unmark_2]
    refine sim_gI (by assumption) (fun _ => ?_)
    refine sim_if (fun _ => ?_) (fun _ => ?_)
    exact sim_retV (by assumption) (by assumption)
    refine sim_gA (by assumption) (fun _ => ?_)
    refine sim_wZ hO (by assumption) (by assumption) (fun _ _ _ _ => ?_)
    refine sim_bI (fun _ => ?_)
    exact ih _ _ _ _ (by assumption) (by assumption)
def G_XModel_unmark (O : qOb9) (n : Nat) (l0 : Nat) (S : qS) : Option (Unit × qS) :=
  G_XModel_unmark_2 O n n l0 (0 : Int32) S
set_option maxHeartbeats 4000000 in
set_option maxRecDepth 100000 in
theorem S_XModel_unmark {O : qOb9} (hO : okO O) {n : Nat} {M0 : PM} {l0 : Nat} {M : PM} {S : qS} (R : Rp O M S) (H : Fm O M0 M) : Sim eV O M0 (F_XModel_unmark n l0 M) (G_XModel_unmark O n l0 S) := by
  unfold F_XModel_unmark G_XModel_unmark
  exact S_XModel_unmark_2 hO _ _ _ _ _ (by assumption) (by assumption)
def G_XModel_mark_11 (O : qOb9) (n : Nat) (S : qS) : Option (Unit × qS) :=
  some ((), S)
set_option maxHeartbeats 4000000 in
set_option maxRecDepth 100000 in
theorem S_XModel_mark_11 {O : qOb9} (hO : okO O) {n : Nat} {M0 : PM} {M : PM} {S : qS} (R : Rp O M S) (H : Fm O M0 M) : Sim eV O M0 (F_XModel_mark_11 n M) (G_XModel_mark_11 O n S) := by
  unfold F_XModel_mark_11 G_XModel_mark_11
  exact sim_retV (by assumption) (by assumption)
def G_XModel_mark (O : qOb9) (n : Nat) (l0 : Nat) (l1 : Int32) (S : qS) : Option (Unit × qS) :=
  if l1 < (0 : Int32) then
    G_XModel_mark_11 O n S
  else
    hA 0 O l0 21 (fun v2 =>
    hw 1 O S v2 l1 (vp_nar .boolean (1 : Int32)) (fun S3 =>
    G_XModel_mark_11 O n S3))
set_option maxHeartbeats 4000000 in
set_option maxRecDepth 100000 in
theorem S_XModel_mark {O : qOb9} (hO : okO O) {n : Nat} {M0 : PM} {l0 : Nat} {l1 : Int32} {M : PM} {S : qS} (R : Rp O M S) (H : Fm O M0 M) : Sim eV O M0 (F_XModel_mark n l0 l1 M) (G_XModel_mark O n l0 l1 S) := by
  unfold F_XModel_mark G_XModel_mark
  refine sim_if (fun _ => ?_) (fun _ => ?_)
  exact S_XModel_mark_11 hO (by assumption) (by assumption)
  refine sim_gA (by assumption) (fun _ => ?_)
  refine sim_wZ hO (by assumption) (by assumption) (fun _ _ _ _ => ?_)
  exact S_XModel_mark_11 hO (by assumption) (by assumption)
def G_XModel_markParts_72 (O : qOb9) (n : Nat) (rec7 : Nat → Int32 → qS → Option (Unit × qS)) (l0 : Nat) (l1 : Int32) (S : qS) : Option (Unit × qS) :=
  hB (l1 + (-1 : Int32)) (fun v1 =>
  rec7 l0 v1 S)
set_option maxHeartbeats 4000000 in
set_option maxRecDepth 100000 in
theorem S_XModel_markParts_72 {O : qOb9} (hO : okO O) {n : Nat} {M0 : PM} {rec7 : Nat → Int32 → PM → qO} {grec7 : Nat → Int32 → qS → Option (Unit × qS)} (hrec7 : ∀ (l0 : Nat) (l1 : Int32) (M : PM) (S : qS), Rp O M S → Fm O M0 M → Sim eV O M0 (rec7 l0 l1 M) (grec7 l0 l1 S)) {l0 : Nat} {l1 : Int32} {M : PM} {S : qS} (R : Rp O M S) (H : Fm O M0 M) : Sim eV O M0 (F_XModel_markParts_72 n rec7 l0 l1 M) (G_XModel_markParts_72 O n grec7 l0 l1 S) := by
  unfold F_XModel_markParts_72 G_XModel_markParts_72
  refine sim_bI (fun _ => ?_)
  exact hrec7 _ _ _ _ (by assumption) (by assumption)
def G_XModel_markParts_7 (O : qOb9) (n : Nat) : Nat → Nat → Int32 → qS → Option (Unit × qS)
  | 0, _, _, _ => none
  | f + 1, l0, l1, S =>
    if l1 ≤ (2 : Int32) then
      some ((), S)
    else
      hA 0 O l0 21 (fun v2 =>
      hl 1 O S v2 l1 (fun v3 =>
      if v3 = (0 : Int32) then
        G_XModel_markParts_72 O n (G_XModel_markParts_7 O n f) l0 l1 S
      else
        hA 0 O l0 3 (fun v5 =>
        hl 0 O S v5 l1 (fun v6 =>
        if v6 ≤ (4 : Int32) then
          G_XModel_markParts_72 O n (G_XModel_markParts_7 O n f) l0 l1 S
        else
          hA 0 O l0 4 (fun v8 =>
          hl 0 O S v8 l1 (fun v9 =>
          hk 0 O l0 (
          yV (G_XModel_mark O n l0 v9 S) (fun S10 =>
          hA 0 O l0 5 (fun v11 =>
          hl 0 O S10 v11 l1 (fun v12 =>
          hk 0 O l0 (
          yV (G_XModel_mark O n l0 v12 S10) (fun S13 =>
          hA 0 O l0 3 (fun v14 =>
          hl 0 O S13 v14 l1 (fun v15 =>
          if v15 = (9 : Int32) then
            hA 0 O l0 6 (fun v17 =>
            hl 0 O S13 v17 l1 (fun v18 =>
            hk 0 O l0 (
            yV (G_XModel_mark O n l0 v18 S13) (fun S19 =>
            G_XModel_markParts_72 O n (G_XModel_markParts_7 O n f) l0 l1 S19))))
          else
            G_XModel_markParts_72 O n (G_XModel_markParts_7 O n f) l0 l1 S13))))))))))))))
set_option maxHeartbeats 4000000 in
set_option maxRecDepth 100000 in
theorem S_XModel_markParts_7 {O : qOb9} (hO : okO O) {n : Nat} {M0 : PM} : ∀ (f : Nat) (l0 : Nat) (l1 : Int32) (M : PM) (S : qS), Rp O M S → Fm O M0 M → Sim eV O M0 (F_XModel_markParts_7 n f l0 l1 M) (G_XModel_markParts_7 O n f l0 l1 S) := by
  intro f
  induction f with
  | zero => intro l0 l1 M S _ _; rw [G_XModel_markParts_7]; exact sim_none
  | succ f ih =>
    intro l0 l1 M S R H
    rw [F_XModel_markParts_7, G_XModel_markParts_7]
    refine sim_if (fun _ => ?_) (fun _ => ?_)
    exact sim_retV (by assumption) (by assumption)
    refine sim_gA (by assumption) (fun _ => ?_)
    refine sim_lZ (by assumption) (fun _ => ?_)
    refine sim_if (fun _ => ?_) (fun _ => ?_)
    exact S_XModel_markParts_72 hO ih (by assumption) (by assumption)
    refine sim_gA (by assumption) (fun _ => ?_)
    refine sim_lI (by assumption) (fun _ => ?_)
    refine sim_if (fun _ => ?_) (fun _ => ?_)
    exact S_XModel_markParts_72 hO ih (by assumption) (by assumption)
    refine sim_gA (by assumption) (fun _ => ?_)
    refine sim_lI (by assumption) (fun _ => ?_)
    refine sim_kO (by assumption) ?_
    refine sim_cV (S_XModel_mark hO (by assumption) (by assumption)) (fun _ _ _ _ => ?_)
    refine sim_gA (by assumption) (fun _ => ?_)
    refine sim_lI (by assumption) (fun _ => ?_)
    refine sim_kO (by assumption) ?_
    refine sim_cV (S_XModel_mark hO (by assumption) (by assumption)) (fun _ _ _ _ => ?_)
    refine sim_gA (by assumption) (fun _ => ?_)
    refine sim_lI (by assumption) (fun _ => ?_)
    refine sim_if (fun _ => ?_) (fun _ => ?_)
    refine sim_gA (by assumption) (fun _ => ?_)
    refine sim_lI (by assumption) (fun _ => ?_)
    refine sim_kO (by assumption) ?_
    refine sim_cV (S_XModel_mark hO (by assumption) (by assumption)) (fun _ _ _ _ => ?_)
    exact S_XModel_markParts_72 hO ih (by assumption) (by assumption)
    exact S_XModel_markParts_72 hO ih (by assumption) (by assumption)
def G_XModel_markParts (O : qOb9) (n : Nat) (l0 : Nat) (S : qS) : Option (Unit × qS) :=
  hI 0 O S l0 2 (fun v1 =>
  hB (v1 - (1 : Int32)) (fun v2 =>
  G_XModel_markParts_7 O n n l0 v2 S))
set_option maxHeartbeats 4000000 in
set_option maxRecDepth 100000 in
theorem S_XModel_markParts {O : qOb9} (hO : okO O) {n : Nat} {M0 : PM} {l0 : Nat} {M : PM} {S : qS} (R : Rp O M S) (H : Fm O M0 M) : Sim eV O M0 (F_XModel_markParts n l0 M) (G_XModel_markParts O n l0 S) := by
  unfold F_XModel_markParts G_XModel_markParts
  refine sim_gI (by assumption) (fun _ => ?_)
  refine sim_bI (fun _ => ?_)
  exact S_XModel_markParts_7 hO _ _ _ _ _ (by assumption) (by assumption)
def G_XModel_hasFetch (O : qOb9) (n : Nat) (l0 : Nat) (l1 : Int32) (S : qS) : Option (Int32 × qS) :=
  hk 0 O l0 (
  yV (G_XModel_unmark O n l0 S) (fun S1 =>
  hk 0 O l0 (
  yV (G_XModel_mark O n l0 l1 S1) (fun S2 =>
  hk 0 O l0 (
  yV (G_XModel_markParts O n l0 S2) (fun S3 =>
  hA 0 O l0 21 (fun v4 =>
  hl 1 O S3 v4 (2 : Int32) (fun v5 =>
  hz v5 S3))))))))
set_option maxHeartbeats 4000000 in
set_option maxRecDepth 100000 in
theorem S_XModel_hasFetch {O : qOb9} (hO : okO O) {n : Nat} {M0 : PM} {l0 : Nat} {l1 : Int32} {M : PM} {S : qS} (R : Rp O M S) (H : Fm O M0 M) : Sim eI O M0 (F_XModel_hasFetch n l0 l1 M) (G_XModel_hasFetch O n l0 l1 S) := by
  unfold F_XModel_hasFetch G_XModel_hasFetch
  refine sim_kO (by assumption) ?_
  refine sim_cV (S_XModel_unmark hO (by assumption) (by assumption)) (fun _ _ _ _ => ?_)
  refine sim_kO (by assumption) ?_
  refine sim_cV (S_XModel_mark hO (by assumption) (by assumption)) (fun _ _ _ _ => ?_)
  refine sim_kO (by assumption) ?_
  refine sim_cV (S_XModel_markParts hO (by assumption) (by assumption)) (fun _ _ _ _ => ?_)
  refine sim_gA (by assumption) (fun _ => ?_)
  refine sim_lZ (by assumption) (fun _ => ?_)
  exact sim_rZ (by assumption) (by assumption)
def G_XModel_plain_43 (O : qOb9) (n : Nat) (l0 : Nat) (l1 : Int32) (l2 : Int32) (s0 : Nat) (s1 : Int32) (S : qS) : Option (Int32 × qS) :=
  hP 0 O S s0 0 (s1) (fun S1 =>
  hI 0 O S1 l0 0 (fun v2 =>
  if v2 ≤ (0 : Int32) then
    hA 0 O l0 15 (fun v4 =>
    hl 1 O S1 v4 l1 (fun v5 =>
    hA 0 O l0 14 (fun v6 =>
    hw 0 O S1 v6 l1 l2 (fun S7 =>
    hA 0 O l0 15 (fun v8 =>
    hw 1 O S7 v8 l1 (vp_nar .boolean (1 : Int32)) (fun S9 =>
    hz v5 S9))))))
  else
    some ((0 : Int32), S1)))
set_option maxHeartbeats 4000000 in
set_option maxRecDepth 100000 in
theorem S_XModel_plain_43 {O : qOb9} (hO : okO O) {n : Nat} {M0 : PM} {l0 : Nat} {l1 : Int32} {l2 : Int32} {s0 : Nat} {s1 : Int32} {M : PM} {S : qS} (R : Rp O M S) (H : Fm O M0 M) : Sim eI O M0 (F_XModel_plain_43 n l0 l1 l2 s0 s1 M) (G_XModel_plain_43 O n l0 l1 l2 s0 s1 S) := by
  unfold F_XModel_plain_43 G_XModel_plain_43
  refine sim_pF (by assumption) (by assumption) (fun _ _ _ _ => ?_)
  refine sim_gI (by assumption) (fun _ => ?_)
  refine sim_if (fun _ => ?_) (fun _ => ?_)
  refine sim_gA (by assumption) (fun _ => ?_)
  refine sim_lZ (by assumption) (fun _ => ?_)
  refine sim_gA (by assumption) (fun _ => ?_)
  refine sim_wI hO (by assumption) (by assumption) (fun _ _ _ _ => ?_)
  refine sim_gA (by assumption) (fun _ => ?_)
  refine sim_wZ hO (by assumption) (by assumption) (fun _ _ _ _ => ?_)
  exact sim_rZ (by assumption) (by assumption)
  exact sim_retI (by assumption) (by assumption)
def G_XModel_plain_17 (O : qOb9) (n : Nat) (l0 : Nat) (l1 : Int32) (l2 : Int32) (s0 : Nat) (S : qS) : Option (Int32 × qS) :=
  G_XModel_plain_43 O n l0 l1 l2 s0 (1 : Int32) S
set_option maxHeartbeats 4000000 in
set_option maxRecDepth 100000 in
theorem S_XModel_plain_17 {O : qOb9} (hO : okO O) {n : Nat} {M0 : PM} {l0 : Nat} {l1 : Int32} {l2 : Int32} {s0 : Nat} {M : PM} {S : qS} (R : Rp O M S) (H : Fm O M0 M) : Sim eI O M0 (F_XModel_plain_17 n l0 l1 l2 s0 M) (G_XModel_plain_17 O n l0 l1 l2 s0 S) := by
  unfold F_XModel_plain_17 G_XModel_plain_17
  exact S_XModel_plain_43 hO (by assumption) (by assumption)
def G_XModel_plain_42 (O : qOb9) (n : Nat) (l0 : Nat) (l1 : Int32) (l2 : Int32) (s0 : Nat) (S : qS) : Option (Int32 × qS) :=
  G_XModel_plain_43 O n l0 l1 l2 s0 (2 : Int32) S
set_option maxHeartbeats 4000000 in
set_option maxRecDepth 100000 in
theorem S_XModel_plain_42 {O : qOb9} (hO : okO O) {n : Nat} {M0 : PM} {l0 : Nat} {l1 : Int32} {l2 : Int32} {s0 : Nat} {M : PM} {S : qS} (R : Rp O M S) (H : Fm O M0 M) : Sim eI O M0 (F_XModel_plain_42 n l0 l1 l2 s0 M) (G_XModel_plain_42 O n l0 l1 l2 s0 S) := by
  unfold F_XModel_plain_42 G_XModel_plain_42
  exact S_XModel_plain_43 hO (by assumption) (by assumption)
def G_XModel_plain (O : qOb9) (n : Nat) (l0 : Nat) (l1 : Int32) (l2 : Int32) (S : qS) : Option (Int32 × qS) :=
  hk 0 O l0 (
  yC (G_XModel_isElement O n l0 l1 S) (fun v2 S1 =>
  if v2 = (0 : Int32) then
    G_XModel_plain_17 O n l0 l1 l2 l0 S1
  else
    hk 0 O l0 (
    yC (G_XModel_isNode O n l0 l2 S1) (fun v5 S4 =>
    if v5 = (0 : Int32) then
      G_XModel_plain_17 O n l0 l1 l2 l0 S4
    else
      hk 0 O l0 (
      yC (G_XModel_isOfSort O n l0 l1 l2 S4) (fun v8 S7 =>
      if v8 = (0 : Int32) then
        G_XModel_plain_42 O n l0 l1 l2 l0 S7
      else
        hk 0 O l0 (
        yC (G_XModel_hasFetch O n l0 l2 S7) (fun v11 S10 =>
        if v11 = (0 : Int32) then
          G_XModel_plain_43 O n l0 l1 l2 l0 (0 : Int32) S10
        else
          G_XModel_plain_42 O n l0 l1 l2 l0 S10))))))))
set_option maxHeartbeats 4000000 in
set_option maxRecDepth 100000 in
theorem S_XModel_plain {O : qOb9} (hO : okO O) {n : Nat} {M0 : PM} {l0 : Nat} {l1 : Int32} {l2 : Int32} {M : PM} {S : qS} (R : Rp O M S) (H : Fm O M0 M) : Sim eI O M0 (F_XModel_plain n l0 l1 l2 M) (G_XModel_plain O n l0 l1 l2 S) := by
  unfold F_XModel_plain G_XModel_plain
  refine sim_kO (by assumption) ?_
  refine sim_cI (S_XModel_isElement hO (by assumption) (by assumption)) (fun _ _ _ _ _ => ?_)
  refine sim_if (fun _ => ?_) (fun _ => ?_)
  exact S_XModel_plain_17 hO (by assumption) (by assumption)
  refine sim_kO (by assumption) ?_
  refine sim_cI (S_XModel_isNode hO (by assumption) (by assumption)) (fun _ _ _ _ _ => ?_)
  refine sim_if (fun _ => ?_) (fun _ => ?_)
  exact S_XModel_plain_17 hO (by assumption) (by assumption)
  refine sim_kO (by assumption) ?_
  refine sim_cI (S_XModel_isOfSort hO (by assumption) (by assumption)) (fun _ _ _ _ _ => ?_)
  refine sim_if (fun _ => ?_) (fun _ => ?_)
  exact S_XModel_plain_42 hO (by assumption) (by assumption)
  refine sim_kO (by assumption) ?_
  refine sim_cI (S_XModel_hasFetch hO (by assumption) (by assumption)) (fun _ _ _ _ _ => ?_)
  refine sim_if (fun _ => ?_) (fun _ => ?_)
  exact S_XModel_plain_43 hO (by assumption) (by assumption)
  exact S_XModel_plain_42 hO (by assumption) (by assumption)
