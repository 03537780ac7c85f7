def G_XModel_invariant_35 (O : qOb9) (n : Nat) (l0 : Nat) (S : qS) : Option (Int32 × qS) :=
  hk 0 O l0 (
  yC (G_XModel_fail O n l0 (2 : Int32) S) (fun v2 S1 =>
  some (v2, S1)))
set_option maxHeartbeats 4000000 in
set_option maxRecDepth 100000 in
theorem S_XModel_invariant_35 {O : qOb9} (hO : okO O) {n : Nat} {M0 : PM} {l0 : Nat} {M : PM} {S : qS} (R : Rp O M S) (H : Fm O M0 M) : Sim eI O M0 (F_XModel_invariant_35 n l0 M) (G_XModel_invariant_35 O n l0 S) := by
  unfold F_XModel_invariant_35 G_XModel_invariant_35
  refine sim_kO (by assumption) ?_
  refine sim_cI (S_XModel_fail hO (by assumption) (by assumption)) (fun _ _ _ _ _ => ?_)
  exact sim_retI (by assumption) (by assumption)
def G_XModel_invariant (O : qOb9) (n : Nat) (l0 : Nat) (l1 : Int32) (S : qS) : Option (Int32 × qS) :=
  hP 0 O S l0 0 ((0 : Int32)) (fun S1 =>
  hk 0 O l0 (
  yC (G_XModel_isNode O n l0 l1 S1) (fun v3 S2 =>
  if v3 = (0 : Int32) then
    hk 0 O l0 (
    yC (G_XModel_fail O n l0 (1 : Int32) S2) (fun v22 S21 =>
    some (v22, S21)))
  else
    hk 0 O l0 (
    yC (G_XModel_isWord O n l0 l1 S2) (fun v6 S5 =>
    if v6 = (0 : Int32) then
      hk 0 O l0 (
      yC (G_XModel_hasFetch O n l0 l1 S5) (fun v9 S8 =>
      if v9 = (0 : Int32) then
        hI 0 O S8 l0 10 (fun v11 =>
        if v11 = (8 : Int32) then
          hk 0 O l0 (
          yC (G_XModel_fail O n l0 (3 : Int32) S8) (fun v20 S19 =>
          some (v20, S19)))
        else
          hA 0 O l0 16 (fun v13 =>
          hI 0 O S8 l0 10 (fun v14 =>
          hw 0 O S8 v13 v14 l1 (fun S15 =>
          hI 0 O S15 l0 10 (fun v16 =>
          hP 0 O S15 l0 10 ((v16 + (1 : Int32))) (fun S17 =>
          hI 0 O S17 l0 10 (fun v18 =>
          some ((v18 - (1 : Int32)), S17))))))))
      else
        G_XModel_invariant_35 O n l0 S8))
    else
      G_XModel_invariant_35 O n l0 S5)))))
set_option maxHeartbeats 4000000 in
set_option maxRecDepth 100000 in
theorem S_XModel_invariant {O : qOb9} (hO : okO O) {n : Nat} {M0 : PM} {l0 : Nat} {l1 : Int32} {M : PM} {S : qS} (R : Rp O M S) (H : Fm O M0 M) : Sim eI O M0 (F_XModel_invariant n l0 l1 M) (G_XModel_invariant O n l0 l1 S) := by
  unfold F_XModel_invariant G_XModel_invariant
  refine sim_pF (by assumption) (by assumption) (fun _ _ _ _ => ?_)
  refine sim_kO (by assumption) ?_
  refine sim_cI (S_XModel_isNode hO (by assumption) (by assumption)) (fun _ _ _ _ _ => ?_)
  refine sim_if (fun _ => ?_) (fun _ => ?_)
  refine sim_kO (by assumption) ?_
  refine sim_cI (S_XModel_fail hO (by assumption) (by assumption)) (fun _ _ _ _ _ => ?_)
  exact sim_retI (by assumption) (by assumption)
  refine sim_kO (by assumption) ?_
  refine sim_cI (S_XModel_isWord hO (by assumption) (by assumption)) (fun _ _ _ _ _ => ?_)
  refine sim_if (fun _ => ?_) (fun _ => ?_)
  refine sim_kO (by assumption) ?_
  refine sim_cI (S_XModel_hasFetch hO (by assumption) (by assumption)) (fun _ _ _ _ _ => ?_)
  refine sim_if (fun _ => ?_) (fun _ => ?_)
  refine sim_gI (by assumption) (fun _ => ?_)
  refine sim_if (fun _ => ?_) (fun _ => ?_)
  refine sim_kO (by assumption) ?_
  refine sim_cI (S_XModel_fail hO (by assumption) (by assumption)) (fun _ _ _ _ _ => ?_)
  exact sim_retI (by assumption) (by assumption)
  refine sim_gA (by assumption) (fun _ => ?_)
  refine sim_gI (by assumption) (fun _ => ?_)
  refine sim_wI hO (by assumption) (by assumption) (fun _ _ _ _ => ?_)
  refine sim_gI (by assumption) (fun _ => ?_)
  refine sim_pF (by assumption) (by assumption) (fun _ _ _ _ => ?_)
  refine sim_gI (by assumption) (fun _ => ?_)
  exact sim_retI (by assumption) (by assumption)
  exact S_XModel_invariant_35 hO (by assumption) (by assumption)
  exact S_XModel_invariant_35 hO (by assumption) (by assumption)
def G_XModel_beginState_2 (O : qOb9) (n : Nat) : Nat → Nat → Int32 → qS → Option (Unit × qS)
  | 0, _, _, _ => none
  | f + 1, l0, l1, S =>
    hI 0 O S l0 9 (fun v1 =>
    if v1 ≤ l1 then
      some ((), S)
    else
      hA 0 O l0 18 (fun v3 =>
      hA 0 O l0 11 (fun v4 =>
      hl 0 O S v4 l1 (fun v5 =>
      hw 0 O S v3 l1 v5 (fun S6 =>
      hB (l1 + (1 : Int32)) (fun v7 =>
      (G_XModel_beginState_2 O n f) l0 v7 S6))))))
set_option maxHeartbeats 4000000 in
set_option maxRecDepth 100000 in
theorem S_XModel_beginState_2 {O : qOb9} (hO : okO O) {n : Nat} {M0 : PM} : ∀ (f : Nat) (l0 : Nat) (l1 : Int32) (M : PM) (S : qS), Rp O M S → Fm O M0 M → Sim eV O M0 (F_XModel_beginState_2 n f l0 l1 M) (G_XModel_beginState_2 O n f l0 l1 S) := by
  intro f
  induction f with
  | zero => intro l0 l1 M S _ _; rw [G_XModel_beginState_2]; exact sim_none
  | succ f ih =>
    intro l0 l1 M S R H
    rw [F_XModel_beginState_2, G_XModel_beginState_2]
    refine sim_gI (by assumption) (fun _ => ?_)
    refine sim_if (fun _ => ?_) (fun _ => ?_)
    exact sim_retV (by assumption) (by assumption)
    refine sim_gA (by assumption) (fun _ => ?_)
    refine sim_gA (by assumption) (fun _ => ?_)
    refine sim_lI (by assumption) (fun _ => ?_)
    refine sim_wI hO (by assumption) (by assumption) (fun _ _ _ _ => ?_)
    refine sim_bI (fun _ => ?_)
    exact ih _ _ _ _ (by assumption) (by assumption)
def G_XModel_beginState (O : qOb9) (n : Nat) (l0 : Nat) (S : qS) : Option (Unit × qS) :=
  G_XModel_beginState_2 O n n l0 (0 : Int32) S
set_option maxHeartbeats 4000000 in
set_option maxRecDepth 100000 in
theorem S_XModel_beginState {O : qOb9} (hO : okO O) {n : Nat} {M0 : PM} {l0 : Nat} {M : PM} {S : qS} (R : Rp O M S) (H : Fm O M0 M) : Sim eV O M0 (F_XModel_beginState n l0 M) (G_XModel_beginState O n l0 S) := by
  unfold F_XModel_beginState G_XModel_beginState
  exact S_XModel_beginState_2 hO _ _ _ _ _ (by assumption) (by assumption)
def G_XModel_get_30 (O : qOb9) (n : Nat) (s0 : Int32) (S : qS) : Option (Int32 × qS) :=
  some (s0, S)
set_option maxHeartbeats 4000000 in
set_option maxRecDepth 100000 in
theorem S_XModel_get_30 {O : qOb9} (hO : okO O) {n : Nat} {M0 : PM} {s0 : Int32} {M : PM} {S : qS} (R : Rp O M S) (H : Fm O M0 M) : Sim eI O M0 (F_XModel_get_30 n s0 M) (G_XModel_get_30 O n s0 S) := by
  unfold F_XModel_get_30 G_XModel_get_30
  exact sim_retI (by assumption) (by assumption)
def G_XModel_get (O : qOb9) (n : Nat) (l0 : Nat) (l1 : Int32) (l2 : Int32) (l3 : Int32) (l4 : Int32) (S : qS) : Option (Int32 × qS) :=
  hk 0 O l0 (
  yC (G_XModel_find O n l0 l1 l2 l3 l4 S) (fun v2 S1 =>
  if v2 < (0 : Int32) then
    hk 0 O l0 (
    yC (G_XModel_add O n l0 l1 l2 l3 l4 S1) (fun v5 S4 =>
    G_XModel_get_30 O n v5 S4))
  else
    G_XModel_get_30 O n v2 S1))
set_option maxHeartbeats 4000000 in
set_option maxRecDepth 100000 in
theorem S_XModel_get {O : qOb9} (hO : okO O) {n : Nat} {M0 : PM} {l0 : Nat} {l1 : Int32} {l2 : Int32} {l3 : Int32} {l4 : Int32} {M : PM} {S : qS} (R : Rp O M S) (H : Fm O M0 M) : Sim eI O M0 (F_XModel_get n l0 l1 l2 l3 l4 M) (G_XModel_get O n l0 l1 l2 l3 l4 S) := by
  unfold F_XModel_get G_XModel_get
  refine sim_kO (by assumption) ?_
  refine sim_cI (S_XModel_find hO (by assumption) (by assumption)) (fun _ _ _ _ _ => ?_)
  refine sim_if (fun _ => ?_) (fun _ => ?_)
  refine sim_kO (by assumption) ?_
  refine sim_cI (S_XModel_add hO (by assumption) (by assumption)) (fun _ _ _ _ _ => ?_)
  exact S_XModel_get_30 hO (by assumption) (by assumption)
  exact S_XModel_get_30 hO (by assumption) (by assumption)
def G_XModel_make_65 (O : qOb9) (n : Nat) (l4 : Int32) (s0 : Nat) (s1 : Int32) (s2 : Int32) (s3 : Int32) (S : qS) : Option (Int32 × qS) :=
  hk 0 O s0 (
  yC (G_XModel_get O n s0 s1 s2 s3 l4 S) (fun v2 S1 =>
  some (v2, S1)))
set_option maxHeartbeats 4000000 in
set_option maxRecDepth 100000 in
theorem S_XModel_make_65 {O : qOb9} (hO : okO O) {n : Nat} {M0 : PM} {l4 : Int32} {s0 : Nat} {s1 : Int32} {s2 : Int32} {s3 : Int32} {M : PM} {S : qS} (R : Rp O M S) (H : Fm O M0 M) : Sim eI O M0 (F_XModel_make_65 n l4 s0 s1 s2 s3 M) (G_XModel_make_65 O n l4 s0 s1 s2 s3 S) := by
  unfold F_XModel_make_65 G_XModel_make_65
  refine sim_kO (by assumption) ?_
  refine sim_cI (S_XModel_get hO (by assumption) (by assumption)) (fun _ _ _ _ _ => ?_)
  exact sim_retI (by assumption) (by assumption)
def G_XModel_make_55 (O : qOb9) (n : Nat) (l2 : Int32) (l3 : Int32) (l4 : Int32) (l6 : Int32) (s0 : Nat) (s1 : Int32) (s2 : Int32) (S : qS) : Option (Int32 × qS) :=
  if l6 = (0 : Int32) then
    G_XModel_make_65 O n l4 s0 s1 s2 l3 S
  else
    G_XModel_make_65 O n l4 s0 s1 s2 l2 S
set_option maxHeartbeats 4000000 in
set_option maxRecDepth 100000 in
theorem S_XModel_make_55 {O : qOb9} (hO : okO O) {n : Nat} {M0 : PM} {l2 : Int32} {l3 : Int32} {l4 : Int32} {l6 : Int32} {s0 : Nat} {s1 : Int32} {s2 : Int32} {M : PM} {S : qS} (R : Rp O M S) (H : Fm O M0 M) : Sim eI O M0 (F_XModel_make_55 n l2 l3 l4 l6 s0 s1 s2 M) (G_XModel_make_55 O n l2 l3 l4 l6 s0 s1 s2 S) := by
  unfold F_XModel_make_55 G_XModel_make_55
  refine sim_if (fun _ => ?_) (fun _ => ?_)
  exact S_XModel_make_65 hO (by assumption) (by assumption)
  exact S_XModel_make_65 hO (by assumption) (by assumption)
def G_XModel_make_41 (O : qOb9) (n : Nat) (l0 : Nat) (l1 : Int32) (l2 : Int32) (l3 : Int32) (l4 : Int32) (s0 : Int32) (S : qS) : Option (Int32 × qS) :=
  if s0 = (0 : Int32) then
    G_XModel_make_55 O n l2 l3 l4 s0 l0 l1 l2 S
  else
    G_XModel_make_55 O n l2 l3 l4 s0 l0 l1 l3 S
set_option maxHeartbeats 4000000 in
set_option maxRecDepth 100000 in
theorem S_XModel_make_41 {O : qOb9} (hO : okO O) {n : Nat} {M0 : PM} {l0 : Nat} {l1 : Int32} {l2 : Int32} {l3 : Int32} {l4 : Int32} {s0 : Int32} {M : PM} {S : qS} (R : Rp O M S) (H : Fm O M0 M) : Sim eI O M0 (F_XModel_make_41 n l0 l1 l2 l3 l4 s0 M) (G_XModel_make_41 O n l0 l1 l2 l3 l4 s0 S) := by
  unfold F_XModel_make_41 G_XModel_make_41
  refine sim_if (fun _ => ?_) (fun _ => ?_)
  exact S_XModel_make_55 hO (by assumption) (by assumption)
  exact S_XModel_make_55 hO (by assumption) (by assumption)
def G_XModel_make_40 (O : qOb9) (n : Nat) (l0 : Nat) (l1 : Int32) (l2 : Int32) (l3 : Int32) (l4 : Int32) (S : qS) : Option (Int32 × qS) :=
  G_XModel_make_41 O n l0 l1 l2 l3 l4 (0 : Int32) S
set_option maxHeartbeats 4000000 in
set_option maxRecDepth 100000 in
theorem S_XModel_make_40 {O : qOb9} (hO : okO O) {n : Nat} {M0 : PM} {l0 : Nat} {l1 : Int32} {l2 : Int32} {l3 : Int32} {l4 : Int32} {M : PM} {S : qS} (R : Rp O M S) (H : Fm O M0 M) : Sim eI O M0 (F_XModel_make_40 n l0 l1 l2 l3 l4 M) (G_XModel_make_40 O n l0 l1 l2 l3 l4 S) := by
  unfold F_XModel_make_40 G_XModel_make_40
  exact S_XModel_make_41 hO (by assumption) (by assumption)
def G_XModel_make_31 (O : qOb9) (n : Nat) (l0 : Nat) (l1 : Int32) (l2 : Int32) (l3 : Int32) (l4 : Int32) (S : qS) : Option (Int32 × qS) :=
  if l2 ≤ l3 then
    G_XModel_make_40 O n l0 l1 l2 l3 l4 S
  else
    G_XModel_make_41 O n l0 l1 l2 l3 l4 (1 : Int32) S
set_option maxHeartbeats 4000000 in
set_option maxRecDepth 100000 in
theorem S_XModel_make_31 {O : qOb9} (hO : okO O) {n : Nat} {M0 : PM} {l0 : Nat} {l1 : Int32} {l2 : Int32} {l3 : Int32} {l4 : Int32} {M : PM} {S : qS} (R : Rp O M S) (H : Fm O M0 M) : Sim eI O M0 (F_XModel_make_31 n l0 l1 l2 l3 l4 M) (G_XModel_make_31 O n l0 l1 l2 l3 l4 S) := by
  unfold F_XModel_make_31 G_XModel_make_31
  refine sim_if (fun _ => ?_) (fun _ => ?_)
  exact S_XModel_make_40 hO (by assumption) (by assumption)
  exact S_XModel_make_41 hO (by assumption) (by assumption)
def G_XModel_make (O : qOb9) (n : Nat) (l0 : Nat) (l1 : Int32) (l2 : Int32) (l3 : Int32) (l4 : Int32) (S : qS) : Option (Int32 × qS) :=
  hk 0 O l0 (
  yC (G_XModel_plainest O n l0 l1 l2 l3 l4 S) (fun v2 S1 =>
  if v2 < (0 : Int32) then
    if l1 = (6 : Int32) then
      G_XModel_make_31 O n l0 l1 l2 l3 l4 S1
    else
      if l1 = (8 : Int32) then
        G_XModel_make_31 O n l0 l1 l2 l3 l4 S1
      else
        G_XModel_make_40 O n l0 l1 l2 l3 l4 S1
  else
    some (v2, S1)))
set_option maxHeartbeats 4000000 in
set_option maxRecDepth 100000 in
theorem S_XModel_make {O : qOb9} (hO : okO O) {n : Nat} {M0 : PM} {l0 : Nat} {l1 : Int32} {l2 : Int32} {l3 : Int32} {l4 : Int32} {M : PM} {S : qS} (R : Rp O M S) (H : Fm O M0 M) : Sim eI O M0 (F_XModel_make n l0 l1 l2 l3 l4 M) (G_XModel_make O n l0 l1 l2 l3 l4 S) := by
  unfold F_XModel_make G_XModel_make
  refine sim_kO (by assumption) ?_
  refine sim_cI (S_XModel_plainest hO (by assumption) (by assumption)) (fun _ _ _ _ _ => ?_)
  refine sim_if (fun _ => ?_) (fun _ => ?_)
  refine sim_if (fun _ => ?_) (fun _ => ?_)
  exact S_XModel_make_31 hO (by assumption) (by assumption)
  refine sim_if (fun _ => ?_) (fun _ => ?_)
  exact S_XModel_make_31 hO (by assumption) (by assumption)
  exact S_XModel_make_40 hO (by assumption) (by assumption)
  exact sim_retI (by assumption) (by assumption)
def G_XModel_putIn_202 (O : qOb9) (n : Nat) (rec2 : Nat → Int32 → Int32 → qS → Option (Unit × qS)) (l0 : Nat) (l1 : Int32) (l2 : Int32) (S : qS) : Option (Unit × qS) :=
  hB (l2 + (1 : Int32)) (fun v1 =>
  rec2 l0 l1 v1 S)
set_option maxHeartbeats 4000000 in
set_option maxRecDepth 100000 in
theorem S_XModel_putIn_202 {O : qOb9} (hO : okO O) {n : Nat} {M0 : PM} {rec2 : Nat → Int32 → Int32 → PM → qO} {grec2 : Nat → Int32 → Int32 → qS → Option (Unit × qS)} (hrec2 : ∀ (l0 : Nat) (l1 : Int32) (l2 : Int32) (M : PM) (S : qS), Rp O M S → Fm O M0 M → Sim eV O M0 (rec2 l0 l1 l2 M) (grec2 l0 l1 l2 S)) {l0 : Nat} {l1 : Int32} {l2 : Int32} {M : PM} {S : qS} (R : Rp O M S) (H : Fm O M0 M) : Sim eV O M0 (F_XModel_putIn_202 n rec2 l0 l1 l2 M) (G_XModel_putIn_202 O n grec2 l0 l1 l2 S) := by
  unfold F_XModel_putIn_202 G_XModel_putIn_202
  refine sim_bI (fun _ => ?_)
  exact hrec2 _ _ _ _ _ (by assumption) (by assumption)
def G_XModel_putIn_119 (O : qOb9) (n : Nat) (rec2 : Nat → Int32 → Int32 → qS → Option (Unit × qS)) (l0 : Nat) (l1 : Int32) (l2 : Int32) (s0 : Nat × Nat) (s1 : Int32) (s2 : Nat) (s3 : Int32) (s4 : Int32) (s5 : Int32) (S : qS) : Option (Unit × qS) :=
  hA 0 O l0 6 (fun v1 =>
  hl 0 O S v1 l2 (fun v2 =>
  hk 0 O s2 (
  yC (G_XModel_make O n s2 s3 s4 s5 v2 S) (fun v4 S3 =>
  hw 0 O S3 s0 s1 v4 (fun S5 =>
  G_XModel_putIn_202 O n rec2 l0 l1 l2 S5)))))
set_option maxHeartbeats 4000000 in
set_option maxRecDepth 100000 in
theorem S_XModel_putIn_119 {O : qOb9} (hO : okO O) {n : Nat} {M0 : PM} {rec2 : Nat → Int32 → Int32 → PM → qO} {grec2 : Nat → Int32 → Int32 → qS → Option (Unit × qS)} (hrec2 : ∀ (l0 : Nat) (l1 : Int32) (l2 : Int32) (M : PM) (S : qS), Rp O M S → Fm O M0 M → Sim eV O M0 (rec2 l0 l1 l2 M) (grec2 l0 l1 l2 S)) {l0 : Nat} {l1 : Int32} {l2 : Int32} {s0 : Nat × Nat} {s1 : Int32} {s2 : Nat} {s3 : Int32} {s4 : Int32} {s5 : Int32} {M : PM} {S : qS} (R : Rp O M S) (H : Fm O M0 M) : Sim eV O M0 (F_XModel_putIn_119 n rec2 l0 l1 l2 (oA O s0.1 s0.2) s1 s2 s3 s4 s5 M) (G_XModel_putIn_119 O n grec2 l0 l1 l2 s0 s1 s2 s3 s4 s5 S) := by
  unfold F_XModel_putIn_119 G_XModel_putIn_119
  refine sim_gA (by assumption) (fun _ => ?_)
  refine sim_lI (by assumption) (fun _ => ?_)
  refine sim_kO (by assumption) ?_
  refine sim_cI (S_XModel_make hO (by assumption) (by assumption)) (fun _ _ _ _ _ => ?_)
  refine sim_wI hO (by assumption) (by assumption) (fun _ _ _ _ => ?_)
  exact S_XModel_putIn_202 hO hrec2 (by assumption) (by assumption)
def G_XModel_putIn_198 (O : qOb9) (n : Nat) (rec2 : Nat → Int32 → Int32 → qS → Option (Unit × qS)) (l0 : Nat) (l1 : Int32) (l2 : Int32) (s0 : Nat × Nat) (s1 : Int32) (s2 : Nat) (s3 : Int32) (s4 : Int32) (s5 : Int32) (s6 : Int32) (S : qS) : Option (Unit × qS) :=
  hk 0 O s2 (
  yC (G_XModel_make O n s2 s3 s4 s5 s6 S) (fun v2 S1 =>
  hw 0 O S1 s0 s1 v2 (fun S3 =>
  G_XModel_putIn_202 O n rec2 l0 l1 l2 S3)))
set_option maxHeartbeats 4000000 in
set_option maxRecDepth 100000 in
theorem S_XModel_putIn_198 {O : qOb9} (hO : okO O) {n : Nat} {M0 : PM} {rec2 : Nat → Int32 → Int32 → PM → qO} {grec2 : Nat → Int32 → Int32 → qS → Option (Unit × qS)} (hrec2 : ∀ (l0 : Nat) (l1 : Int32) (l2 : Int32) (M : PM) (S : qS), Rp O M S → Fm O M0 M → Sim eV O M0 (rec2 l0 l1 l2 M) (grec2 l0 l1 l2 S)) {l0 : Nat} {l1 : Int32} {l2 : Int32} {s0 : Nat × Nat} {s1 : Int32} {s2 : Nat} {s3 : Int32} {s4 : Int32} {s5 : Int32} {s6 : Int32} {M : PM} {S : qS} (R : Rp O M S) (H : Fm O M0 M) : Sim eV O M0 (F_XModel_putIn_198 n rec2 l0 l1 l2 (oA O s0.1 s0.2) s1 s2 s3 s4 s5 s6 M) (G_XModel_putIn_198 O n grec2 l0 l1 l2 s0 s1 s2 s3 s4 s5 s6 S) := by
  unfold F_XModel_putIn_198 G_XModel_putIn_198
  refine sim_kO (by assumption) ?_
  refine sim_cI (S_XModel_make hO (by assumption) (by assumption)) (fun _ _ _ _ _ => ?_)
  refine sim_wI hO (by assumption) (by assumption) (fun _ _ _ _ => ?_)
  exact S_XModel_putIn_202 hO hrec2 (by assumption) (by assumption)
def G_XModel_putIn_174 (O : qOb9) (n : Nat) (rec2 : Nat → Int32 → Int32 → qS → Option (Unit × qS)) (l0 : Nat) (l1 : Int32) (l2 : Int32) (s0 : Nat × Nat) (s1 : Int32) (s2 : Nat) (s3 : Int32) (s4 : Int32) (s5 : Int32) (S : qS) : Option (Unit × qS) :=
  hA 0 O l0 6 (fun v1 =>
  hl 0 O S v1 l2 (fun v2 =>
  if (0 : Int32) ≤ v2 then
    hA 0 O l0 17 (fun v4 =>
    hA 0 O l0 6 (fun v5 =>
    hl 0 O S v5 l2 (fun v6 =>
    hl 0 O S v4 v6 (fun v7 =>
    G_XModel_putIn_198 O n rec2 l0 l1 l2 s0 s1 s2 s3 s4 s5 v7 S))))
  else
    G_XModel_putIn_198 O n rec2 l0 l1 l2 s0 s1 s2 s3 s4 s5 (-1 : Int32) S))
set_option maxHeartbeats 4000000 in
set_option maxRecDepth 100000 in
theorem S_XModel_putIn_174 {O : qOb9} (hO : okO O) {n : Nat} {M0 : PM} {rec2 : Nat → Int32 → Int32 → PM → qO} {grec2 : Nat → Int32 → Int32 → qS → Option (Unit × qS)} (hrec2 : ∀ (l0 : Nat) (l1 : Int32) (l2 : Int32) (M : PM) (S : qS), Rp O M S → Fm O M0 M → Sim eV O M0 (rec2 l0 l1 l2 M) (grec2 l0 l1 l2 S)) {l0 : Nat} {l1 : Int32} {l2 : Int32} {s0 : Nat × Nat} {s1 : Int32} {s2 : Nat} {s3 : Int32} {s4 : Int32} {s5 : Int32} {M : PM} {S : qS} (R : Rp O M S) (H : Fm O M0 M) : Sim eV O M0 (F_XModel_putIn_174 n rec2 l0 l1 l2 (oA O s0.1 s0.2) s1 s2 s3 s4 s5 M) (G_XModel_putIn_174 O n grec2 l0 l1 l2 s0 s1 s2 s3 s4 s5 S) := by
  unfold F_XModel_putIn_174 G_XModel_putIn_174
  refine sim_gA (by assumption) (fun _ => ?_)
  refine sim_lI (by assumption) (fun _ => ?_)
  refine sim_if (fun _ => ?_) (fun _ => ?_)
  refine sim_gA (by assumption) (fun _ => ?_)
  refine sim_gA (by assumption) (fun _ => ?_)
  refine sim_lI (by assumption) (fun _ => ?_)
  refine sim_lI (by assumption) (fun _ => ?_)
  exact S_XModel_putIn_198 hO hrec2 (by assumption) (by assumption)
  exact S_XModel_putIn_198 hO hrec2 (by assumption) (by assumption)
def G_XModel_putIn_2 (O : qOb9) (n : Nat) : Nat → Nat → Int32 → Int32 → qS → Option (Unit × qS)
  | 0, _, _, _, _ => none
  | f + 1, l0, l1, l2, S =>
    hI 0 O S l0 1 (fun v1 =>
    if v1 ≤ l2 then
      some ((), S)
    else
      hA 0 O l0 3 (fun v3 =>
      hl 0 O S v3 l2 (fun v4 =>
      if (2 : Int32) ≤ v4 then
        if v4 = (2 : Int32) then
          hA 0 O l0 17 (fun v39 =>
          hw 0 O S v39 l2 l1 (fun S40 =>
          G_XModel_putIn_202 O n (G_XModel_putIn_2 O n f) l0 l1 l2 S40))
        else
          if (5 : Int32) ≤ v4 then
            if v4 = (5 : Int32) then
              hA 0 O l0 17 (fun v21 =>
              hA 0 O l0 17 (fun v22 =>
              hA 0 O l0 4 (fun v23 =>
              hl 0 O S v23 l2 (fun v24 =>
              hl 0 O S v22 v24 (fun v25 =>
              hA 0 O l0 5 (fun v26 =>
              hl 0 O S v26 l2 (fun v27 =>
              if (0 : Int32) ≤ v27 then
                hA 0 O l0 17 (fun v29 =>
                hA 0 O l0 5 (fun v30 =>
                hl 0 O S v30 l2 (fun v31 =>
                hl 0 O S v29 v31 (fun v32 =>
                G_XModel_putIn_119 O n (G_XModel_putIn_2 O n f) l0 l1 l2 v21 l2 l0 v4 v25 v32 S))))
              else
                G_XModel_putIn_119 O n (G_XModel_putIn_2 O n f) l0 l1 l2 v21 l2 l0 v4 v25 (-1 : Int32) S)))))))
            else
              hA 0 O l0 17 (fun v9 =>
              hA 0 O l0 17 (fun v10 =>
              hA 0 O l0 4 (fun v11 =>
              hl 0 O S v11 l2 (fun v12 =>
              hl 0 O S v10 v12 (fun v13 =>
              hA 0 O l0 5 (fun v14 =>
              hl 0 O S v14 l2 (fun v15 =>
              if (0 : Int32) ≤ v15 then
                hA 0 O l0 17 (fun v17 =>
                hA 0 O l0 5 (fun v18 =>
                hl 0 O S v18 l2 (fun v19 =>
                hl 0 O S v17 v19 (fun v20 =>
                G_XModel_putIn_174 O n (G_XModel_putIn_2 O n f) l0 l1 l2 v9 l2 l0 v4 v13 v20 S))))
              else
                G_XModel_putIn_174 O n (G_XModel_putIn_2 O n f) l0 l1 l2 v9 l2 l0 v4 v13 (-1 : Int32) S)))))))
          else
            hA 0 O l0 17 (fun v33 =>
            hA 0 O l0 18 (fun v34 =>
            hA 0 O l0 4 (fun v35 =>
            hl 0 O S v35 l2 (fun v36 =>
            hl 0 O S v34 v36 (fun v37 =>
            hw 0 O S v33 l2 v37 (fun S38 =>
            G_XModel_putIn_202 O n (G_XModel_putIn_2 O n f) l0 l1 l2 S38))))))
      else
        hA 0 O l0 17 (fun v41 =>
        hw 0 O S v41 l2 l2 (fun S42 =>
        G_XModel_putIn_202 O n (G_XModel_putIn_2 O n f) l0 l1 l2 S42)))))
set_option maxHeartbeats 4000000 in
set_option maxRecDepth 100000 in
theorem S_XModel_putIn_2 {O : qOb9} (hO : okO O) {n : Nat} {M0 : PM} : ∀ (f : Nat) (l0 : Nat) (l1 : Int32) (l2 : Int32) (M : PM) (S : qS), Rp O M S → Fm O M0 M → Sim eV O M0 (F_XModel_putIn_2 n f l0 l1 l2 M) (G_XModel_putIn_2 O n f l0 l1 l2 S) := by
  intro f
  induction f with
  | zero => intro l0 l1 l2 M S _ _; rw [G_XModel_putIn_2]; exact sim_none
  | succ f ih =>
    intro l0 l1 l2 M S R H
    rw [F_XModel_putIn_2, G_XModel_putIn_2]
    refine sim_gI (by assumption) (fun _ => ?_)
    refine sim_if (fun _ => ?_) (fun _ => ?_)
    exact sim_retV (by assumption) (by assumption)
    refine sim_gA (by assumption) (fun _ => ?_)
    refine sim_lI (by assumption) (fun _ => ?_)
    refine sim_if (fun _ => ?_) (fun _ => ?_)
    refine sim_if (fun _ => ?_) (fun _ => ?_)
    refine sim_gA (by assumption) (fun _ => ?_)
    refine sim_wI hO (by assumption) (by assumption) (fun _ _ _ _ => ?_)
    exact S_XModel_putIn_202 hO ih (by assumption) (by assumption)
    refine sim_if (fun _ => ?_) (fun _ => ?_)
    refine sim_if (fun _ => ?_) (fun _ => ?_)
    refine sim_gA (by assumption) (fun _ => ?_)
    refine sim_gA (by assumption) (fun _ => ?_)
    refine sim_gA (by assumption) (fun _ => ?_)
    refine sim_lI (by assumption) (fun _ => ?_)
    refine sim_lI (by assumption) (fun _ => ?_)
    refine sim_gA (by assumption) (fun _ => ?_)
    refine sim_lI (by assumption) (fun _ => ?_)
    refine sim_if (fun _ => ?_) (fun _ => ?_)
    refine sim_gA (by assumption) (fun _ => ?_)
    refine sim_gA (by assumption) (fun _ => ?_)
    refine sim_lI (by assumption) (fun _ => ?_)
    refine sim_lI (by assumption) (fun _ => ?_)
    exact S_XModel_putIn_119 hO ih (by assumption) (by assumption)
    exact S_XModel_putIn_119 hO ih (by assumption) (by assumption)
    refine sim_gA (by assumption) (fun _ => ?_)
    refine sim_gA (by assumption) (fun _ => ?_)
    refine sim_gA (by assumption) (fun _ => ?_)
    refine sim_lI (by assumption) (fun _ => ?_)
    refine sim_lI (by assumption) (fun _ => ?_)
    refine sim_gA (by assumption) (fun _ => ?_)
    refine sim_lI (by assumption) (fun _ => ?_)
    refine sim_if (fun _ => ?_) (fun _ => ?_)
    refine sim_gA (by assumption) (fun _ => ?_)
    refine sim_gA (by assumption) (fun _ => ?_)
    refine sim_lI (by assumption) (fun _ => ?_)
    refine sim_lI (by assumption) (fun _ => ?_)
    exact S_XModel_putIn_174 hO ih (by assumption) (by assumption)
    exact S_XModel_putIn_174 hO ih (by assumption) (by assumption)
    refine sim_gA (by assumption) (fun _ => ?_)
    refine sim_gA (by assumption) (fun _ => ?_)
    refine sim_gA (by assumption) (fun _ => ?_)
    refine sim_lI (by assumption) (fun _ => ?_)
    refine sim_lI (by assumption) (fun _ => ?_)
    refine sim_wI hO (by assumption) (by assumption) (fun _ _ _ _ => ?_)
    exact S_XModel_putIn_202 hO ih (by assumption) (by assumption)
    refine sim_gA (by assumption) (fun _ => ?_)
    refine sim_wI hO (by assumption) (by assumption) (fun _ _ _ _ => ?_)
    exact S_XModel_putIn_202 hO ih (by assumption) (by assumption)
def G_XModel_putIn (O : qOb9) (n : Nat) (l0 : Nat) (l1 : Int32) (S : qS) : Option (Unit × qS) :=
  G_XModel_putIn_2 O n n l0 l1 (0 : Int32) S
set_option maxHeartbeats 4000000 in
set_option maxRecDepth 100000 in
theorem S_XModel_putIn {O : qOb9} (hO : okO O) {n : Nat} {M0 : PM} {l0 : Nat} {l1 : Int32} {M : PM} {S : qS} (R : Rp O M S) (H : Fm O M0 M) : Sim eV O M0 (F_XModel_putIn n l0 l1 M) (G_XModel_putIn O n l0 l1 S) := by
  unfold F_XModel_putIn G_XModel_putIn
  exact S_XModel_putIn_2 hO _ _ _ _ _ _ (by assumption) (by assumption)
def G_XModel_step_7 (O : qOb9) (n : Nat) : Nat → Nat → Int32 → qS → Option (Unit × qS)
  | 0, _, _, _ => none
  | f + 1, l0, l2, S =>
    hI 0 O S l0 9 (fun v1 =>
    if v1 ≤ l2 then
      some ((), S)
    else
      hA 0 O l0 18 (fun v3 =>
      hA 0 O l0 17 (fun v4 =>
      hA 0 O l0 12 (fun v5 =>
      hl 0 O S v5 l2 (fun v6 =>
      hl 0 O S v4 v6 (fun v7 =>
      hw 0 O S v3 l2 v7 (fun S8 =>
      hB (l2 + (1 : Int32)) (fun v9 =>
      (G_XModel_step_7 O n f) l0 v9 S8))))))))
set_option maxHeartbeats 4000000 in
set_option maxRecDepth 100000 in
theorem S_XModel_step_7 {O : qOb9} (hO : okO O) {n : Nat} {M0 : PM} : ∀ (f : Nat) (l0 : Nat) (l2 : Int32) (M : PM) (S : qS), Rp O M S → Fm O M0 M → Sim eV O M0 (F_XModel_step_7 n f l0 l2 M) (G_XModel_step_7 O n f l0 l2 S) := by
  intro f
  induction f with
  | zero => intro l0 l2 M S _ _; rw [G_XModel_step_7]; exact sim_none
  | succ f ih =>
    intro l0 l2 M S R H
    rw [F_XModel_step_7, G_XModel_step_7]
    refine sim_gI (by assumption) (fun _ => ?_)
    refine sim_if (fun _ => ?_) (fun _ => ?_)
    exact sim_retV (by assumption) (by assumption)
    refine sim_gA (by assumption) (fun _ => ?_)
    refine sim_gA (by assumption) (fun _ => ?_)
    refine sim_gA (by assumption) (fun _ => ?_)
    refine sim_lI (by assumption) (fun _ => ?_)
    refine sim_lI (by assumption) (fun _ => ?_)
    refine sim_wI hO (by assumption) (by assumption) (fun _ _ _ _ => ?_)
    refine sim_bI (fun _ => ?_)
    exact ih _ _ _ _ (by assumption) (by assumption)
def G_XModel_step (O : qOb9) (n : Nat) (l0 : Nat) (l1 : Int32) (S : qS) : Option (Unit × qS) :=
  hk 0 O l0 (
  yV (G_XModel_putIn O n l0 l1 S) (fun S1 =>
  G_XModel_step_7 O n n l0 (0 : Int32) S1))
set_option maxHeartbeats 4000000 in
set_option maxRecDepth 100000 in
theorem S_XModel_step {O : qOb9} (hO : okO O) {n : Nat} {M0 : PM} {l0 : Nat} {l1 : Int32} {M : PM} {S : qS} (R : Rp O M S) (H : Fm O M0 M) : Sim eV O M0 (F_XModel_step n l0 l1 M) (G_XModel_step O n l0 l1 S) := by
  unfold F_XModel_step G_XModel_step
  refine sim_kO (by assumption) ?_
  refine sim_cV (S_XModel_putIn hO (by assumption) (by assumption)) (fun _ _ _ _ => ?_)
  exact S_XModel_step_7 hO _ _ _ _ _ (by assumption) (by assumption)
def G_XModel_gather_136 (O : qOb9) (n : Nat) (rec26 : Nat → Int32 → qS → Option (Unit × qS)) (l0 : Nat) (l1 : Int32) (s0 : Nat) (s1 : Int32) (s2 : Int32) (S : qS) : Option (Unit × qS) :=
  hP 0 O S s0 30 ((s1 + s2)) (fun S1 =>
  hB (l1 + (1 : Int32)) (fun v2 =>
  rec26 l0 v2 S1))
set_option maxHeartbeats 4000000 in
set_option maxRecDepth 100000 in
theorem S_XModel_gather_136 {O : qOb9} (hO : okO O) {n : Nat} {M0 : PM} {rec26 : Nat → Int32 → PM → qO} {grec26 : Nat → Int32 → qS → Option (Unit × qS)} (hrec26 : ∀ (l0 : Nat) (l1 : Int32) (M : PM) (S : qS), Rp O M S → Fm O M0 M → Sim eV O M0 (rec26 l0 l1 M) (grec26 l0 l1 S)) {l0 : Nat} {l1 : Int32} {s0 : Nat} {s1 : Int32} {s2 : Int32} {M : PM} {S : qS} (R : Rp O M S) (H : Fm O M0 M) : Sim eV O M0 (F_XModel_gather_136 n rec26 l0 l1 s0 s1 s2 M) (G_XModel_gather_136 O n grec26 l0 l1 s0 s1 s2 S) := by
  unfold F_XModel_gather_136 G_XModel_gather_136
  refine sim_pF (by assumption) (by assumption) (fun _ _ _ _ => ?_)
  refine sim_bI (fun _ => ?_)
  exact hrec26 _ _ _ _ (by assumption) (by assumption)
def G_XModel_gather_118 (O : qOb9) (n : Nat) (rec26 : Nat → Int32 → qS → Option (Unit × qS)) (l0 : Nat) (l1 : Int32) (l3 : Int32) (s0 : Nat) (s1 : Int32) (s2 : Int32) (S : qS) : Option (Unit × qS) :=
  hP 0 O S s0 29 ((s1 + s2)) (fun S1 =>
  hI 0 O S1 l0 30 (fun v2 =>
  if l3 = (0 : Int32) then
    G_XModel_gather_136 O n rec26 l0 l1 l0 v2 (0 : Int32) S1
  else
    G_XModel_gather_136 O n rec26 l0 l1 l0 v2 (1 : Int32) S1))
set_option maxHeartbeats 4000000 in
set_option maxRecDepth 100000 in
theorem S_XModel_gather_118 {O : qOb9} (hO : okO O) {n : Nat} {M0 : PM} {rec26 : Nat → Int32 → PM → qO} {grec26 : Nat → Int32 → qS → Option (Unit × qS)} (hrec26 : ∀ (l0 : Nat) (l1 : Int32) (M : PM) (S : qS), Rp O M S → Fm O M0 M → Sim eV O M0 (rec26 l0 l1 M) (grec26 l0 l1 S)) {l0 : Nat} {l1 : Int32} {l3 : Int32} {s0 : Nat} {s1 : Int32} {s2 : Int32} {M : PM} {S : qS} (R : Rp O M S) (H : Fm O M0 M) : Sim eV O M0 (F_XModel_gather_118 n rec26 l0 l1 l3 s0 s1 s2 M) (G_XModel_gather_118 O n grec26 l0 l1 l3 s0 s1 s2 S) := by
  unfold F_XModel_gather_118 G_XModel_gather_118
  refine sim_pF (by assumption) (by assumption) (fun _ _ _ _ => ?_)
  refine sim_gI (by assumption) (fun _ => ?_)
  refine sim_if (fun _ => ?_) (fun _ => ?_)
  exact S_XModel_gather_136 hO hrec26 (by assumption) (by assumption)
  exact S_XModel_gather_136 hO hrec26 (by assumption) (by assumption)
def G_XModel_gather_103 (O : qOb9) (n : Nat) (rec26 : Nat → Int32 → qS → Option (Unit × qS)) (l0 : Nat) (l1 : Int32) (l2 : Int32) (s0 : Int32) (S : qS) : Option (Unit × qS) :=
  hI 0 O S l0 29 (fun v1 =>
  if l2 = (0 : Int32) then
    G_XModel_gather_118 O n rec26 l0 l1 s0 l0 v1 (0 : Int32) S
  else
    G_XModel_gather_118 O n rec26 l0 l1 s0 l0 v1 (1 : Int32) S)
set_option maxHeartbeats 4000000 in
set_option maxRecDepth 100000 in
theorem S_XModel_gather_103 {O : qOb9} (hO : okO O) {n : Nat} {M0 : PM} {rec26 : Nat → Int32 → PM → qO} {grec26 : Nat → Int32 → qS → Option (Unit × qS)} (hrec26 : ∀ (l0 : Nat) (l1 : Int32) (M : PM) (S : qS), Rp O M S → Fm O M0 M → Sim eV O M0 (rec26 l0 l1 M) (grec26 l0 l1 S)) {l0 : Nat} {l1 : Int32} {l2 : Int32} {s0 : Int32} {M : PM} {S : qS} (R : Rp O M S) (H : Fm O M0 M) : Sim eV O M0 (F_XModel_gather_103 n rec26 l0 l1 l2 s0 M) (G_XModel_gather_103 O n grec26 l0 l1 l2 s0 S) := by
  unfold F_XModel_gather_103 G_XModel_gather_103
  refine sim_gI (by assumption) (fun _ => ?_)
  refine sim_if (fun _ => ?_) (fun _ => ?_)
  exact S_XModel_gather_118 hO hrec26 (by assumption) (by assumption)
  exact S_XModel_gather_118 hO hrec26 (by assumption) (by assumption)
def G_XModel_gather_102 (O : qOb9) (n : Nat) (rec26 : Nat → Int32 → qS → Option (Unit × qS)) (l0 : Nat) (l1 : Int32) (l2 : Int32) (S : qS) : Option (Unit × qS) :=
  G_XModel_gather_103 O n rec26 l0 l1 l2 (0 : Int32) S
set_option maxHeartbeats 4000000 in
set_option maxRecDepth 100000 in
theorem S_XModel_gather_102 {O : qOb9} (hO : okO O) {n : Nat} {M0 : PM} {rec26 : Nat → Int32 → PM → qO} {grec26 : Nat → Int32 → qS → Option (Unit × qS)} (hrec26 : ∀ (l0 : Nat) (l1 : Int32) (M : PM) (S : qS), Rp O M S → Fm O M0 M → Sim eV O M0 (rec26 l0 l1 M) (grec26 l0 l1 S)) {l0 : Nat} {l1 : Int32} {l2 : Int32} {M : PM} {S : qS} (R : Rp O M S) (H : Fm O M0 M) : Sim eV O M0 (F_XModel_gather_102 n rec26 l0 l1 l2 M) (G_XModel_gather_102 O n grec26 l0 l1 l2 S) := by
  unfold F_XModel_gather_102 G_XModel_gather_102
  exact S_XModel_gather_103 hO hrec26 (by assumption) (by assumption)
def G_XModel_gather_98 (O : qOb9) (n : Nat) (rec26 : Nat → Int32 → qS → Option (Unit × qS)) (l0 : Nat) (l1 : Int32) (l2 : Int32) (S : qS) : Option (Unit × qS) :=
  G_XModel_gather_103 O n rec26 l0 l1 l2 (1 : Int32) S
set_option maxHeartbeats 4000000 in
set_option maxRecDepth 100000 in
theorem S_XModel_gather_98 {O : qOb9} (hO : okO O) {n : Nat} {M0 : PM} {rec26 : Nat → Int32 → PM → qO} {grec26 : Nat → Int32 → qS → Option (Unit × qS)} (hrec26 : ∀ (l0 : Nat) (l1 : Int32) (M : PM) (S : qS), Rp O M S → Fm O M0 M → Sim eV O M0 (rec26 l0 l1 M) (grec26 l0 l1 S)) {l0 : Nat} {l1 : Int32} {l2 : Int32} {M : PM} {S : qS} (R : Rp O M S) (H : Fm O M0 M) : Sim eV O M0 (F_XModel_gather_98 n rec26 l0 l1 l2 M) (G_XModel_gather_98 O n grec26 l0 l1 l2 S) := by
  unfold F_XModel_gather_98 G_XModel_gather_98
  exact S_XModel_gather_103 hO hrec26 (by assumption) (by assumption)
def G_XModel_gather_68 (O : qOb9) (n : Nat) (rec26 : Nat → Int32 → qS → Option (Unit × qS)) (l0 : Nat) (l1 : Int32) (s0 : Int32) (S : qS) : Option (Unit × qS) :=
  hA 0 O l0 21 (fun v1 =>
  hl 1 O S v1 l1 (fun v2 =>
  if v2 = (0 : Int32) then
    G_XModel_gather_102 O n rec26 l0 l1 s0 S
  else
    hA 0 O l0 3 (fun v4 =>
    hl 0 O S v4 l1 (fun v5 =>
    if v5 = (4 : Int32) then
      G_XModel_gather_98 O n rec26 l0 l1 s0 S
    else
      hA 0 O l0 3 (fun v7 =>
      hl 0 O S v7 l1 (fun v8 =>
      if v8 = (2 : Int32) then
        G_XModel_gather_98 O n rec26 l0 l1 s0 S
      else
        G_XModel_gather_102 O n rec26 l0 l1 s0 S))))))
set_option maxHeartbeats 4000000 in
set_option maxRecDepth 100000 in
theorem S_XModel_gather_68 {O : qOb9} (hO : okO O) {n : Nat} {M0 : PM} {rec26 : Nat → Int32 → PM → qO} {grec26 : Nat → Int32 → qS → Option (Unit × qS)} (hrec26 : ∀ (l0 : Nat) (l1 : Int32) (M : PM) (S : qS), Rp O M S → Fm O M0 M → Sim eV O M0 (rec26 l0 l1 M) (grec26 l0 l1 S)) {l0 : Nat} {l1 : Int32} {s0 : Int32} {M : PM} {S : qS} (R : Rp O M S) (H : Fm O M0 M) : Sim eV O M0 (F_XModel_gather_68 n rec26 l0 l1 s0 M) (G_XModel_gather_68 O n grec26 l0 l1 s0 S) := by
  unfold F_XModel_gather_68 G_XModel_gather_68
  refine sim_gA (by assumption) (fun _ => ?_)
  refine sim_lZ (by assumption) (fun _ => ?_)
  refine sim_if (fun _ => ?_) (fun _ => ?_)
  exact S_XModel_gather_102 hO hrec26 (by assumption) (by assumption)
  refine sim_gA (by assumption) (fun _ => ?_)
  refine sim_lI (by assumption) (fun _ => ?_)
  refine sim_if (fun _ => ?_) (fun _ => ?_)
  exact S_XModel_gather_98 hO hrec26 (by assumption) (by assumption)
  refine sim_gA (by assumption) (fun _ => ?_)
  refine sim_lI (by assumption) (fun _ => ?_)
  refine sim_if (fun _ => ?_) (fun _ => ?_)
  exact S_XModel_gather_98 hO hrec26 (by assumption) (by assumption)
  exact S_XModel_gather_102 hO hrec26 (by assumption) (by assumption)
def G_XModel_gather_67 (O : qOb9) (n : Nat) (rec26 : Nat → Int32 → qS → Option (Unit × qS)) (l0 : Nat) (l1 : Int32) (S : qS) : Option (Unit × qS) :=
  G_XModel_gather_68 O n rec26 l0 l1 (0 : Int32) S
set_option maxHeartbeats 4000000 in
set_option maxRecDepth 100000 in
theorem S_XModel_gather_67 {O : qOb9} (hO : okO O) {n : Nat} {M0 : PM} {rec26 : Nat → Int32 → PM → qO} {grec26 : Nat → Int32 → qS → Option (Unit × qS)} (hrec26 : ∀ (l0 : Nat) (l1 : Int32) (M : PM) (S : qS), Rp O M S → Fm O M0 M → Sim eV O M0 (rec26 l0 l1 M) (grec26 l0 l1 S)) {l0 : Nat} {l1 : Int32} {M : PM} {S : qS} (R : Rp O M S) (H : Fm O M0 M) : Sim eV O M0 (F_XModel_gather_67 n rec26 l0 l1 M) (G_XModel_gather_67 O n grec26 l0 l1 S) := by
  unfold F_XModel_gather_67 G_XModel_gather_67
  exact S_XModel_gather_68 hO hrec26 (by assumption) (by assumption)
def G_XModel_gather_63 (O : qOb9) (n : Nat) (rec26 : Nat → Int32 → qS → Option (Unit × qS)) (l0 : Nat) (l1 : Int32) (S : qS) : Option (Unit × qS) :=
  G_XModel_gather_68 O n rec26 l0 l1 (1 : Int32) S
set_option maxHeartbeats 4000000 in
set_option maxRecDepth 100000 in
theorem S_XModel_gather_63 {O : qOb9} (hO : okO O) {n : Nat} {M0 : PM} {rec26 : Nat → Int32 → PM → qO} {grec26 : Nat → Int32 → qS → Option (Unit × qS)} (hrec26 : ∀ (l0 : Nat) (l1 : Int32) (M : PM) (S : qS), Rp O M S → Fm O M0 M → Sim eV O M0 (rec26 l0 l1 M) (grec26 l0 l1 S)) {l0 : Nat} {l1 : Int32} {M : PM} {S : qS} (R : Rp O M S) (H : Fm O M0 M) : Sim eV O M0 (F_XModel_gather_63 n rec26 l0 l1 M) (G_XModel_gather_63 O n grec26 l0 l1 S) := by
  unfold F_XModel_gather_63 G_XModel_gather_63
  exact S_XModel_gather_68 hO hrec26 (by assumption) (by assumption)
def G_XModel_gather_164 (O : qOb9) (n : Nat) (S : qS) : Option (Unit × qS) :=
  some ((), S)
set_option maxHeartbeats 4000000 in
set_option maxRecDepth 100000 in
theorem S_XModel_gather_164 {O : qOb9} (hO : okO O) {n : Nat} {M0 : PM} {M : PM} {S : qS} (R : Rp O M S) (H : Fm O M0 M) : Sim eV O M0 (F_XModel_gather_164 n M) (G_XModel_gather_164 O n S) := by
  unfold F_XModel_gather_164 G_XModel_gather_164
  exact sim_retV (by assumption) (by assumption)
def G_XModel_gather_253 (O : qOb9) (n : Nat) (rec167 : Nat → Int32 → qS → Option (Unit × qS)) (l0 : Nat) (l1 : Int32) (S : qS) : Option (Unit × qS) :=
  hB (l1 + (1 : Int32)) (fun v1 =>
  rec167 l0 v1 S)
set_option maxHeartbeats 4000000 in
set_option maxRecDepth 100000 in
theorem S_XModel_gather_253 {O : qOb9} (hO : okO O) {n : Nat} {M0 : PM} {rec167 : Nat → Int32 → PM → qO} {grec167 : Nat → Int32 → qS → Option (Unit × qS)} (hrec167 : ∀ (l0 : Nat) (l1 : Int32) (M : PM) (S : qS), Rp O M S → Fm O M0 M → Sim eV O M0 (rec167 l0 l1 M) (grec167 l0 l1 S)) {l0 : Nat} {l1 : Int32} {M : PM} {S : qS} (R : Rp O M S) (H : Fm O M0 M) : Sim eV O M0 (F_XModel_gather_253 n rec167 l0 l1 M) (G_XModel_gather_253 O n grec167 l0 l1 S) := by
  unfold F_XModel_gather_253 G_XModel_gather_253
  refine sim_bI (fun _ => ?_)
  exact hrec167 _ _ _ _ (by assumption) (by assumption)
def G_XModel_gather_214 (O : qOb9) (n : Nat) (rec167 : Nat → Int32 → qS → Option (Unit × qS)) (l0 : Nat) (l1 : Int32) (S : qS) : Option (Unit × qS) :=
  hA 0 O l0 21 (fun v1 =>
  hl 1 O S v1 l1 (fun v2 =>
  if v2 = (0 : Int32) then
    G_XModel_gather_253 O n rec167 l0 l1 S
  else
    hA 0 O l0 3 (fun v4 =>
    hl 0 O S v4 l1 (fun v5 =>
    if v5 = (4 : Int32) then
      hA 0 O l0 28 (fun v7 =>
      hI 0 O S l0 25 (fun v8 =>
      hw 0 O S v7 v8 l1 (fun S9 =>
      hI 0 O S9 l0 25 (fun v10 =>
      hP 0 O S9 l0 25 ((v10 + (1 : Int32))) (fun S11 =>
      G_XModel_gather_253 O n rec167 l0 l1 S11)))))
    else
      G_XModel_gather_253 O n rec167 l0 l1 S))))
set_option maxHeartbeats 4000000 in
set_option maxRecDepth 100000 in
theorem S_XModel_gather_214 {O : qOb9} (hO : okO O) {n : Nat} {M0 : PM} {rec167 : Nat → Int32 → PM → qO} {grec167 : Nat → Int32 → qS → Option (Unit × qS)} (hrec167 : ∀ (l0 : Nat) (l1 : Int32) (M : PM) (S : qS), Rp O M S → Fm O M0 M → Sim eV O M0 (rec167 l0 l1 M) (grec167 l0 l1 S)) {l0 : Nat} {l1 : Int32} {M : PM} {S : qS} (R : Rp O M S) (H : Fm O M0 M) : Sim eV O M0 (F_XModel_gather_214 n rec167 l0 l1 M) (G_XModel_gather_214 O n grec167 l0 l1 S) := by
  unfold F_XModel_gather_214 G_XModel_gather_214
  refine sim_gA (by assumption) (fun _ => ?_)
  refine sim_lZ (by assumption) (fun _ => ?_)
  refine sim_if (fun _ => ?_) (fun _ => ?_)
  exact S_XModel_gather_253 hO hrec167 (by assumption) (by assumption)
  refine sim_gA (by assumption) (fun _ => ?_)
  refine sim_lI (by assumption) (fun _ => ?_)
  refine sim_if (fun _ => ?_) (fun _ => ?_)
  refine sim_gA (by assumption) (fun _ => ?_)
  refine sim_gI (by assumption) (fun _ => ?_)
  refine sim_wI hO (by assumption) (by assumption) (fun _ _ _ _ => ?_)
  refine sim_gI (by assumption) (fun _ => ?_)
  refine sim_pF (by assumption) (by assumption) (fun _ _ _ _ => ?_)
  exact S_XModel_gather_253 hO hrec167 (by assumption) (by assumption)
  exact S_XModel_gather_253 hO hrec167 (by assumption) (by assumption)
def G_XModel_gather_347 (O : qOb9) (n : Nat) (rec295 : Nat → Int32 → qS → Option (Unit × qS)) (l0 : Nat) (l1 : Int32) (S : qS) : Option (Unit × qS) :=
  hB (l1 + (1 : Int32)) (fun v1 =>
  rec295 l0 v1 S)
set_option maxHeartbeats 4000000 in
set_option maxRecDepth 100000 in
theorem S_XModel_gather_347 {O : qOb9} (hO : okO O) {n : Nat} {M0 : PM} {rec295 : Nat → Int32 → PM → qO} {grec295 : Nat → Int32 → qS → Option (Unit × qS)} (hrec295 : ∀ (l0 : Nat) (l1 : Int32) (M : PM) (S : qS), Rp O M S → Fm O M0 M → Sim eV O M0 (rec295 l0 l1 M) (grec295 l0 l1 S)) {l0 : Nat} {l1 : Int32} {M : PM} {S : qS} (R : Rp O M S) (H : Fm O M0 M) : Sim eV O M0 (F_XModel_gather_347 n rec295 l0 l1 M) (G_XModel_gather_347 O n grec295 l0 l1 S) := by
  unfold F_XModel_gather_347 G_XModel_gather_347
  refine sim_bI (fun _ => ?_)
  exact hrec295 _ _ _ _ (by assumption) (by assumption)
def G_XModel_gather_295 (O : qOb9) (n : Nat) : Nat → Nat → Int32 → qS → Option (Unit × qS)
  | 0, _, _, _ => none
  | f + 1, l0, l1, S =>
    hI 0 O S l0 2 (fun v1 =>
    if v1 ≤ l1 then
      some ((), S)
    else
      hA 0 O l0 21 (fun v3 =>
      hl 1 O S v3 l1 (fun v4 =>
      if v4 = (0 : Int32) then
        G_XModel_gather_347 O n (G_XModel_gather_295 O n f) l0 l1 S
      else
        hA 0 O l0 3 (fun v6 =>
        hl 0 O S v6 l1 (fun v7 =>
        if v7 = (5 : Int32) then
          hA 0 O l0 26 (fun v9 =>
          hI 0 O S l0 23 (fun v10 =>
          hI 0 O S l0 24 (fun v11 =>
          hw 0 O S v9 (v10 + v11) l1 (fun S12 =>
          hI 0 O S12 l0 24 (fun v13 =>
          hP 0 O S12 l0 24 ((v13 + (1 : Int32))) (fun S14 =>
          G_XModel_gather_347 O n (G_XModel_gather_295 O n f) l0 l1 S14))))))
        else
          G_XModel_gather_347 O n (G_XModel_gather_295 O n f) l0 l1 S)))))
set_option maxHeartbeats 4000000 in
set_option maxRecDepth 100000 in
theorem S_XModel_gather_295 {O : qOb9} (hO : okO O) {n : Nat} {M0 : PM} : ∀ (f : Nat) (l0 : Nat) (l1 : Int32) (M : PM) (S : qS), Rp O M S → Fm O M0 M → Sim eV O M0 (F_XModel_gather_295 n f l0 l1 M) (G_XModel_gather_295 O n f l0 l1 S) := by
  intro f
  induction f with
  | zero => intro l0 l1 M S _ _; rw [G_XModel_gather_295]; exact sim_none
  | succ f ih =>
    intro l0 l1 M S R H
    rw [F_XModel_gather_295, G_XModel_gather_295]
    refine sim_gI (by assumption) (fun _ => ?_)
    refine sim_if (fun _ => ?_) (fun _ => ?_)
    exact sim_retV (by assumption) (by assumption)
    refine sim_gA (by assumption) (fun _ => ?_)
    refine sim_lZ (by assumption) (fun _ => ?_)
    refine sim_if (fun _ => ?_) (fun _ => ?_)
    exact S_XModel_gather_347 hO ih (by assumption) (by assumption)
    refine sim_gA (by assumption) (fun _ => ?_)
    refine sim_lI (by assumption) (fun _ => ?_)
    refine sim_if (fun _ => ?_) (fun _ => ?_)
    refine sim_gA (by assumption) (fun _ => ?_)
    refine sim_gI (by assumption) (fun _ => ?_)
    refine sim_gI (by assumption) (fun _ => ?_)
    refine sim_wI hO (by assumption) (by assumption) (fun _ _ _ _ => ?_)
    refine sim_gI (by assumption) (fun _ => ?_)
    refine sim_pF (by assumption) (by assumption) (fun _ _ _ _ => ?_)
    exact S_XModel_gather_347 hO ih (by assumption) (by assumption)
    exact S_XModel_gather_347 hO ih (by assumption) (by assumption)
def G_XModel_gather_288 (O : qOb9) (n : Nat) (l0 : Nat) (S : qS) : Option (Unit × qS) :=
  hP 0 O S l0 24 ((0 : Int32)) (fun S1 =>
  G_XModel_gather_295 O n n l0 (0 : Int32) S1)
set_option maxHeartbeats 4000000 in
set_option maxRecDepth 100000 in
theorem S_XModel_gather_288 {O : qOb9} (hO : okO O) {n : Nat} {M0 : PM} {l0 : Nat} {M : PM} {S : qS} (R : Rp O M S) (H : Fm O M0 M) : Sim eV O M0 (F_XModel_gather_288 n l0 M) (G_XModel_gather_288 O n l0 S) := by
  unfold F_XModel_gather_288 G_XModel_gather_288
  refine sim_pF (by assumption) (by assumption) (fun _ _ _ _ => ?_)
  exact S_XModel_gather_295 hO _ _ _ _ _ (by assumption) (by assumption)
def G_XModel_gather_167 (O : qOb9) (n : Nat) : Nat → Nat → Int32 → qS → Option (Unit × qS)
  | 0, _, _, _ => none
  | f + 1, l0, l1, S =>
    hI 0 O S l0 2 (fun v1 =>
    if v1 ≤ l1 then
      hA 0 O l0 21 (fun v3 =>
      hl 1 O S v3 (2 : Int32) (fun v4 =>
      if v4 = (0 : Int32) then
        G_XModel_gather_288 O n l0 S
      else
        hA 0 O l0 28 (fun v6 =>
        hI 0 O S l0 25 (fun v7 =>
        hw 0 O S v6 v7 (2 : Int32) (fun S8 =>
        hI 0 O S8 l0 25 (fun v9 =>
        hP 0 O S8 l0 25 ((v9 + (1 : Int32))) (fun S10 =>
        G_XModel_gather_288 O n l0 S10)))))))
    else
      hA 0 O l0 21 (fun v11 =>
      hl 1 O S v11 l1 (fun v12 =>
      if v12 = (0 : Int32) then
        G_XModel_gather_214 O n (G_XModel_gather_167 O n f) l0 l1 S
      else
        hA 0 O l0 3 (fun v14 =>
        hl 0 O S v14 l1 (fun v15 =>
        if v15 = (3 : Int32) then
          hA 0 O l0 26 (fun v17 =>
          hI 0 O S l0 23 (fun v18 =>
          hw 0 O S v17 v18 l1 (fun S19 =>
          hI 0 O S19 l0 23 (fun v20 =>
          hP 0 O S19 l0 23 ((v20 + (1 : Int32))) (fun S21 =>
          G_XModel_gather_214 O n (G_XModel_gather_167 O n f) l0 l1 S21)))))
        else
          G_XModel_gather_214 O n (G_XModel_gather_167 O n f) l0 l1 S)))))
set_option maxHeartbeats 4000000 in
set_option maxRecDepth 100000 in
theorem S_XModel_gather_167 {O : qOb9} (hO : okO O) {n : Nat} {M0 : PM} : ∀ (f : Nat) (l0 : Nat) (l1 : Int32) (M : PM) (S : qS), Rp O M S → Fm O M0 M → Sim eV O M0 (F_XModel_gather_167 n f l0 l1 M) (G_XModel_gather_167 O n f l0 l1 S) := by
  intro f
  induction f with
  | zero => intro l0 l1 M S _ _; rw [G_XModel_gather_167]; exact sim_none
  | succ f ih =>
    intro l0 l1 M S R H
    rw [F_XModel_gather_167, G_XModel_gather_167]
    refine sim_gI (by assumption) (fun _ => ?_)
    refine sim_if (fun _ => ?_) (fun _ => ?_)
    refine sim_gA (by assumption) (fun _ => ?_)
    refine sim_lZ (by assumption) (fun _ => ?_)
    refine sim_if (fun _ => ?_) (fun _ => ?_)
    exact S_XModel_gather_288 hO (by assumption) (by assumption)
    refine sim_gA (by assumption) (fun _ => ?_)
    refine sim_gI (by assumption) (fun _ => ?_)
    refine sim_wI hO (by assumption) (by assumption) (fun _ _ _ _ => ?_)
    refine sim_gI (by assumption) (fun _ => ?_)
    refine sim_pF (by assumption) (by assumption) (fun _ _ _ _ => ?_)
    exact S_XModel_gather_288 hO (by assumption) (by assumption)
    refine sim_gA (by assumption) (fun _ => ?_)
    refine sim_lZ (by assumption) (fun _ => ?_)
    refine sim_if (fun _ => ?_) (fun _ => ?_)
    exact S_XModel_gather_214 hO ih (by assumption) (by assumption)
    refine sim_gA (by assumption) (fun _ => ?_)
    refine sim_lI (by assumption) (fun _ => ?_)
    refine sim_if (fun _ => ?_) (fun _ => ?_)
    refine sim_gA (by assumption) (fun _ => ?_)
    refine sim_gI (by assumption) (fun _ => ?_)
    refine sim_wI hO (by assumption) (by assumption) (fun _ _ _ _ => ?_)
    refine sim_gI (by assumption) (fun _ => ?_)
    refine sim_pF (by assumption) (by assumption) (fun _ _ _ _ => ?_)
    exact S_XModel_gather_214 hO ih (by assumption) (by assumption)
    exact S_XModel_gather_214 hO ih (by assumption) (by assumption)
def G_XModel_gather_26 (O : qOb9) (n : Nat) : Nat → Nat → Int32 → qS → Option (Unit × qS)
  | 0, _, _, _ => none
  | f + 1, l0, l1, S =>
    hI 0 O S l0 2 (fun v1 =>
    if v1 ≤ l1 then
      hI 0 O S l0 29 (fun v3 =>
      if (7 : Int32) < v3 then
        G_XModel_gather_164 O n S
      else
        hI 0 O S l0 30 (fun v5 =>
        if v5 ≤ (6 : Int32) then
          G_XModel_gather_167 O n n l0 (0 : Int32) S
        else
          G_XModel_gather_164 O n S))
    else
      hA 0 O l0 21 (fun v7 =>
      hl 1 O S v7 l1 (fun v8 =>
      if v8 = (0 : Int32) then
        G_XModel_gather_67 O n (G_XModel_gather_26 O n f) l0 l1 S
      else
        hA 0 O l0 3 (fun v10 =>
        hl 0 O S v10 l1 (fun v11 =>
        if v11 = (3 : Int32) then
          G_XModel_gather_63 O n (G_XModel_gather_26 O n f) l0 l1 S
        else
          hA 0 O l0 3 (fun v13 =>
          hl 0 O S v13 l1 (fun v14 =>
          if v14 = (5 : Int32) then
            G_XModel_gather_63 O n (G_XModel_gather_26 O n f) l0 l1 S
          else
            G_XModel_gather_67 O n (G_XModel_gather_26 O n f) l0 l1 S)))))))
set_option maxHeartbeats 4000000 in
set_option maxRecDepth 100000 in
theorem S_XModel_gather_26 {O : qOb9} (hO : okO O) {n : Nat} {M0 : PM} : ∀ (f : Nat) (l0 : Nat) (l1 : Int32) (M : PM) (S : qS), Rp O M S → Fm O M0 M → Sim eV O M0 (F_XModel_gather_26 n f l0 l1 M) (G_XModel_gather_26 O n f l0 l1 S) := by
  intro f
  induction f with
  | zero => intro l0 l1 M S _ _; rw [G_XModel_gather_26]; exact sim_none
  | succ f ih =>
    intro l0 l1 M S R H
    rw [F_XModel_gather_26, G_XModel_gather_26]
    refine sim_gI (by assumption) (fun _ => ?_)
    refine sim_if (fun _ => ?_) (fun _ => ?_)
    refine sim_gI (by assumption) (fun _ => ?_)
    refine sim_if (fun _ => ?_) (fun _ => ?_)
    exact S_XModel_gather_164 hO (by assumption) (by assumption)
    refine sim_gI (by assumption) (fun _ => ?_)
    refine sim_if (fun _ => ?_) (fun _ => ?_)
    exact S_XModel_gather_167 hO _ _ _ _ _ (by assumption) (by assumption)
    exact S_XModel_gather_164 hO (by assumption) (by assumption)
    refine sim_gA (by assumption) (fun _ => ?_)
    refine sim_lZ (by assumption) (fun _ => ?_)
    refine sim_if (fun _ => ?_) (fun _ => ?_)
    exact S_XModel_gather_67 hO ih (by assumption) (by assumption)
    refine sim_gA (by assumption) (fun _ => ?_)
    refine sim_lI (by assumption) (fun _ => ?_)
    refine sim_if (fun _ => ?_) (fun _ => ?_)
    exact S_XModel_gather_63 hO ih (by assumption) (by assumption)
    refine sim_gA (by assumption) (fun _ => ?_)
    refine sim_lI (by assumption) (fun _ => ?_)
    refine sim_if (fun _ => ?_) (fun _ => ?_)
    exact S_XModel_gather_63 hO ih (by assumption) (by assumption)
    exact S_XModel_gather_67 hO ih (by assumption) (by assumption)
def G_XModel_gather (O : qOb9) (n : Nat) (l0 : Nat) (S : qS) : Option (Unit × qS) :=
  hk 0 O l0 (
  yV (G_XModel_markParts O n l0 S) (fun S1 =>
  hP 0 O S1 l0 23 ((0 : Int32)) (fun S2 =>
  hP 0 O S2 l0 25 ((0 : Int32)) (fun S3 =>
  hP 0 O S3 l0 29 ((0 : Int32)) (fun S4 =>
  hP 0 O S4 l0 30 ((0 : Int32)) (fun S5 =>
  G_XModel_gather_26 O n n l0 (0 : Int32) S5))))))
set_option maxHeartbeats 4000000 in
set_option maxRecDepth 100000 in
theorem S_XModel_gather {O : qOb9} (hO : okO O) {n : Nat} {M0 : PM} {l0 : Nat} {M : PM} {S : qS} (R : Rp O M S) (H : Fm O M0 M) : Sim eV O M0 (F_XModel_gather n l0 M) (G_XModel_gather O n l0 S) := by
  unfold F_XModel_gather G_XModel_gather
  refine sim_kO (by assumption) ?_
  refine sim_cV (S_XModel_markParts hO (by assumption) (by assumption)) (fun _ _ _ _ => ?_)
  refine sim_pF (by assumption) (by assumption) (fun _ _ _ _ => ?_)
  refine sim_pF (by assumption) (by assumption) (fun _ _ _ _ => ?_)
  refine sim_pF (by assumption) (by assumption) (fun _ _ _ _ => ?_)
  refine sim_pF (by assumption) (by assumption) (fun _ _ _ _ => ?_)
  exact S_XModel_gather_26 hO _ _ _ _ _ (by assumption) (by assumption)
def G_XModel_work_242 (O : qOb9) (n : Nat) (rec2 : Nat → Int32 → qS → Option (Unit × qS)) (l0 : Nat) (l1 : Int32) (S : qS) : Option (Unit × qS) :=
  hB (l1 + (1 : Int32)) (fun v1 =>
  rec2 l0 v1 S)
set_option maxHeartbeats 4000000 in
set_option maxRecDepth 100000 in
theorem S_XModel_work_242 {O : qOb9} (hO : okO O) {n : Nat} {M0 : PM} {rec2 : Nat → Int32 → PM → qO} {grec2 : Nat → Int32 → qS → Option (Unit × qS)} (hrec2 : ∀ (l0 : Nat) (l1 : Int32) (M : PM) (S : qS), Rp O M S → Fm O M0 M → Sim eV O M0 (rec2 l0 l1 M) (grec2 l0 l1 S)) {l0 : Nat} {l1 : Int32} {M : PM} {S : qS} (R : Rp O M S) (H : Fm O M0 M) : Sim eV O M0 (F_XModel_work_242 n rec2 l0 l1 M) (G_XModel_work_242 O n grec2 l0 l1 S) := by
  unfold F_XModel_work_242 G_XModel_work_242
  refine sim_bI (fun _ => ?_)
  exact hrec2 _ _ _ _ (by assumption) (by assumption)
def G_XModel_work_238 (O : qOb9) (n : Nat) (rec2 : Nat → Int32 → qS → Option (Unit × qS)) (l0 : Nat) (l1 : Int32) (s0 : Nat × Nat) (s1 : Int32) (s2 : Int32) (S : qS) : Option (Unit × qS) :=
  hw 0 O S s0 s1 s2 (fun S1 =>
  G_XModel_work_242 O n rec2 l0 l1 S1)
set_option maxHeartbeats 4000000 in
set_option maxRecDepth 100000 in
theorem S_XModel_work_238 {O : qOb9} (hO : okO O) {n : Nat} {M0 : PM} {rec2 : Nat → Int32 → PM → qO} {grec2 : Nat → Int32 → qS → Option (Unit × qS)} (hrec2 : ∀ (l0 : Nat) (l1 : Int32) (M : PM) (S : qS), Rp O M S → Fm O M0 M → Sim eV O M0 (rec2 l0 l1 M) (grec2 l0 l1 S)) {l0 : Nat} {l1 : Int32} {s0 : Nat × Nat} {s1 : Int32} {s2 : Int32} {M : PM} {S : qS} (R : Rp O M S) (H : Fm O M0 M) : Sim eV O M0 (F_XModel_work_238 n rec2 l0 l1 (oA O s0.1 s0.2) s1 s2 M) (G_XModel_work_238 O n grec2 l0 l1 s0 s1 s2 S) := by
  unfold F_XModel_work_238 G_XModel_work_238
  refine sim_wI hO (by assumption) (by assumption) (fun _ _ _ _ => ?_)
  exact S_XModel_work_242 hO hrec2 (by assumption) (by assumption)
def G_XModel_work_135 (O : qOb9) (n : Nat) (rec2 : Nat → Int32 → qS → Option (Unit × qS)) (l0 : Nat) (l1 : Int32) (s0 : Nat × Nat) (s1 : Int32) (s2 : Int32) (S : qS) : Option (Unit × qS) :=
  hw 0 O S s0 s1 s2 (fun S1 =>
  G_XModel_work_242 O n rec2 l0 l1 S1)
set_option maxHeartbeats 4000000 in
set_option maxRecDepth 100000 in
theorem S_XModel_work_135 {O : qOb9} (hO : okO O) {n : Nat} {M0 : PM} {rec2 : Nat → Int32 → PM → qO} {grec2 : Nat → Int32 → qS → Option (Unit × qS)} (hrec2 : ∀ (l0 : Nat) (l1 : Int32) (M : PM) (S : qS), Rp O M S → Fm O M0 M → Sim eV O M0 (rec2 l0 l1 M) (grec2 l0 l1 S)) {l0 : Nat} {l1 : Int32} {s0 : Nat × Nat} {s1 : Int32} {s2 : Int32} {M : PM} {S : qS} (R : Rp O M S) (H : Fm O M0 M) : Sim eV O M0 (F_XModel_work_135 n rec2 l0 l1 (oA O s0.1 s0.2) s1 s2 M) (G_XModel_work_135 O n grec2 l0 l1 s0 s1 s2 S) := by
  unfold F_XModel_work_135 G_XModel_work_135
  refine sim_wI hO (by assumption) (by assumption) (fun _ _ _ _ => ?_)
  exact S_XModel_work_242 hO hrec2 (by assumption) (by assumption)
def G_XModel_work_2 (O : qOb9) (n : Nat) : Nat → Nat → Int32 → qS → Option (Unit × qS)
  | 0, _, _, _ => none
  | f + 1, l0, l1, S =>
    hI 0 O S l0 2 (fun v1 =>
    if v1 ≤ l1 then
      some ((), S)
    else
      hA 0 O l0 21 (fun v3 =>
      hl 1 O S v3 l1 (fun v4 =>
      if v4 = (0 : Int32) then
        G_XModel_work_242 O n (G_XModel_work_2 O n f) l0 l1 S
      else
        hA 0 O l0 3 (fun v6 =>
        hl 0 O S v6 l1 (fun v7 =>
        if v7 = (0 : Int32) then
          hA 0 O l0 22 (fun v9 =>
          hw 0 O S v9 l1 (0 : Int32) (fun S10 =>
          G_XModel_work_242 O n (G_XModel_work_2 O n f) l0 l1 S10))
        else
        if v7 = (1 : Int32) then
          hA 0 O l0 22 (fun v12 =>
          hw 0 O S v12 l1 (1 : Int32) (fun S13 =>
          G_XModel_work_242 O n (G_XModel_work_2 O n f) l0 l1 S13))
        else
        if v7 = (2 : Int32) then
          G_XModel_work_242 O n (G_XModel_work_2 O n f) l0 l1 S
        else
        if v7 = (3 : Int32) then
          G_XModel_work_242 O n (G_XModel_work_2 O n f) l0 l1 S
        else
        if v7 = (4 : Int32) then
          G_XModel_work_242 O n (G_XModel_work_2 O n f) l0 l1 S
        else
        if v7 = (5 : Int32) then
          G_XModel_work_242 O n (G_XModel_work_2 O n f) l0 l1 S
        else
        if v7 = (6 : Int32) then
          hA 0 O l0 22 (fun v19 =>
          hA 0 O l0 22 (fun v20 =>
          hA 0 O l0 4 (fun v21 =>
          hl 0 O S v21 l1 (fun v22 =>
          hl 0 O S v20 v22 (fun v23 =>
          hA 0 O l0 22 (fun v24 =>
          hA 0 O l0 5 (fun v25 =>
          hl 0 O S v25 l1 (fun v26 =>
          hl 0 O S v24 v26 (fun v27 =>
          if v23 = v27 then
            G_XModel_work_135 O n (G_XModel_work_2 O n f) l0 l1 v19 l1 (1 : Int32) S
          else
            G_XModel_work_135 O n (G_XModel_work_2 O n f) l0 l1 v19 l1 (0 : Int32) S)))))))))
        else
        if v7 = (7 : Int32) then
          hA 0 O l0 22 (fun v30 =>
          hA 0 O l0 22 (fun v31 =>
          hA 0 O l0 4 (fun v32 =>
          hl 0 O S v32 l1 (fun v33 =>
          hl 0 O S v31 v33 (fun v34 =>
          hw 0 O S v30 l1 ((1 : Int32) - v34) (fun S35 =>
          G_XModel_work_242 O n (G_XModel_work_2 O n f) l0 l1 S35))))))
        else
        if v7 = (8 : Int32) then
          hA 0 O l0 22 (fun v37 =>
          hA 0 O l0 22 (fun v38 =>
          hA 0 O l0 4 (fun v39 =>
          hl 0 O S v39 l1 (fun v40 =>
          hl 0 O S v38 v40 (fun v41 =>
          hA 0 O l0 22 (fun v42 =>
          hA 0 O l0 5 (fun v43 =>
          hl 0 O S v43 l1 (fun v44 =>
          hl 0 O S v42 v44 (fun v45 =>
          hw 0 O S v37 l1 (v41 &&& v45) (fun S46 =>
          G_XModel_work_242 O n (G_XModel_work_2 O n f) l0 l1 S46))))))))))
        else
        if v7 = (9 : Int32) then
          hA 0 O l0 22 (fun v48 =>
          hA 0 O l0 22 (fun v49 =>
          hA 0 O l0 4 (fun v50 =>
          hl 0 O S v50 l1 (fun v51 =>
          hl 0 O S v49 v51 (fun v52 =>
          if v52 = (1 : Int32) then
            hA 0 O l0 22 (fun v58 =>
            hA 0 O l0 5 (fun v59 =>
            hl 0 O S v59 l1 (fun v60 =>
            hl 0 O S v58 v60 (fun v61 =>
            G_XModel_work_238 O n (G_XModel_work_2 O n f) l0 l1 v48 l1 v61 S))))
          else
            hA 0 O l0 22 (fun v54 =>
            hA 0 O l0 6 (fun v55 =>
            hl 0 O S v55 l1 (fun v56 =>
            hl 0 O S v54 v56 (fun v57 =>
            G_XModel_work_238 O n (G_XModel_work_2 O n f) l0 l1 v48 l1 v57 S)))))))))
        else
          G_XModel_work_242 O n (G_XModel_work_2 O n f) l0 l1 S)))))
set_option maxHeartbeats 4000000 in
set_option maxRecDepth 100000 in
theorem S_XModel_work_2 {O : qOb9} (hO : okO O) {n : Nat} {M0 : PM} : ∀ (f : Nat) (l0 : Nat) (l1 : Int32) (M : PM) (S : qS), Rp O M S → Fm O M0 M → Sim eV O M0 (F_XModel_work_2 n f l0 l1 M) (G_XModel_work_2 O n f l0 l1 S) := by
  intro f
  induction f with
  | zero => intro l0 l1 M S _ _; rw [G_XModel_work_2]; exact sim_none
  | succ f ih =>
    intro l0 l1 M S R H
    rw [F_XModel_work_2, G_XModel_work_2]
    refine sim_gI (by assumption) (fun _ => ?_)
    refine sim_if (fun _ => ?_) (fun _ => ?_)
    exact sim_retV (by assumption) (by assumption)
    refine sim_gA (by assumption) (fun _ => ?_)
    refine sim_lZ (by assumption) (fun _ => ?_)
    refine sim_if (fun _ => ?_) (fun _ => ?_)
    exact S_XModel_work_242 hO ih (by assumption) (by assumption)
    refine sim_gA (by assumption) (fun _ => ?_)
    refine sim_lI (by assumption) (fun _ => ?_)
    refine sim_if (fun _ => ?_) (fun _ => ?_)
    refine sim_gA (by assumption) (fun _ => ?_)
    refine sim_wI hO (by assumption) (by assumption) (fun _ _ _ _ => ?_)
    exact S_XModel_work_242 hO ih (by assumption) (by assumption)
    refine sim_if (fun _ => ?_) (fun _ => ?_)
    refine sim_gA (by assumption) (fun _ => ?_)
    refine sim_wI hO (by assumption) (by assumption) (fun _ _ _ _ => ?_)
    exact S_XModel_work_242 hO ih (by assumption) (by assumption)
    refine sim_if (fun _ => ?_) (fun _ => ?_)
    exact S_XModel_work_242 hO ih (by assumption) (by assumption)
    refine sim_if (fun _ => ?_) (fun _ => ?_)
    exact S_XModel_work_242 hO ih (by assumption) (by assumption)
    refine sim_if (fun _ => ?_) (fun _ => ?_)
    exact S_XModel_work_242 hO ih (by assumption) (by assumption)
    refine sim_if (fun _ => ?_) (fun _ => ?_)
    exact S_XModel_work_242 hO ih (by assumption) (by assumption)
    refine sim_if (fun _ => ?_) (fun _ => ?_)
    refine sim_gA (by assumption) (fun _ => ?_)
    refine sim_gA (by assumption) (fun _ => ?_)
    refine sim_gA (by assumption) (fun _ => ?_)
    refine sim_lI (by assumption) (fun _ => ?_)
    refine sim_lI (by assumption) (fun _ => ?_)
    refine sim_gA (by assumption) (fun _ => ?_)
    refine sim_gA (by assumption) (fun _ => ?_)
    refine sim_lI (by assumption) (fun _ => ?_)
    refine sim_lI (by assumption) (fun _ => ?_)
    refine sim_if (fun _ => ?_) (fun _ => ?_)
    exact S_XModel_work_135 hO ih (by assumption) (by assumption)
    exact S_XModel_work_135 hO ih (by assumption) (by assumption)
    refine sim_if (fun _ => ?_) (fun _ => ?_)
    refine sim_gA (by assumption) (fun _ => ?_)
    refine sim_gA (by assumption) (fun _ => ?_)
    refine sim_gA (by assumption) (fun _ => ?_)
    refine sim_lI (by assumption) (fun _ => ?_)
    refine sim_lI (by assumption) (fun _ => ?_)
    refine sim_wI hO (by assumption) (by assumption) (fun _ _ _ _ => ?_)
    exact S_XModel_work_242 hO ih (by assumption) (by assumption)
    refine sim_if (fun _ => ?_) (fun _ => ?_)
    refine sim_gA (by assumption) (fun _ => ?_)
    refine sim_gA (by assumption) (fun _ => ?_)
    refine sim_gA (by assumption) (fun _ => ?_)
    refine sim_lI (by assumption) (fun _ => ?_)
    refine sim_lI (by assumption) (fun _ => ?_)
    refine sim_gA (by assumption) (fun _ => ?_)
    refine sim_gA (by assumption) (fun _ => ?_)
    refine sim_lI (by assumption) (fun _ => ?_)
    refine sim_lI (by assumption) (fun _ => ?_)
    refine sim_wI hO (by assumption) (by assumption) (fun _ _ _ _ => ?_)
    exact S_XModel_work_242 hO ih (by assumption) (by assumption)
    refine sim_if (fun _ => ?_) (fun _ => ?_)
    refine sim_gA (by assumption) (fun _ => ?_)
    refine sim_gA (by assumption) (fun _ => ?_)
    refine sim_gA (by assumption) (fun _ => ?_)
    refine sim_lI (by assumption) (fun _ => ?_)
    refine sim_lI (by assumption) (fun _ => ?_)
    refine sim_if (fun _ => ?_) (fun _ => ?_)
    refine sim_gA (by assumption) (fun _ => ?_)
    refine sim_gA (by assumption) (fun _ => ?_)
    refine sim_lI (by assumption) (fun _ => ?_)
    refine sim_lI (by assumption) (fun _ => ?_)
    exact S_XModel_work_238 hO ih (by assumption) (by assumption)
    refine sim_gA (by assumption) (fun _ => ?_)
    refine sim_gA (by assumption) (fun _ => ?_)
    refine sim_lI (by assumption) (fun _ => ?_)
    refine sim_lI (by assumption) (fun _ => ?_)
    exact S_XModel_work_238 hO ih (by assumption) (by assumption)
    exact S_XModel_work_242 hO ih (by assumption) (by assumption)
def G_XModel_work (O : qOb9) (n : Nat) (l0 : Nat) (S : qS) : Option (Unit × qS) :=
  G_XModel_work_2 O n n l0 (0 : Int32) S
set_option maxHeartbeats 4000000 in
set_option maxRecDepth 100000 in
theorem S_XModel_work {O : qOb9} (hO : okO O) {n : Nat} {M0 : PM} {l0 : Nat} {M : PM} {S : qS} (R : Rp O M S) (H : Fm O M0 M) : Sim eV O M0 (F_XModel_work n l0 M) (G_XModel_work O n l0 S) := by
  unfold F_XModel_work G_XModel_work
  exact S_XModel_work_2 hO _ _ _ _ _ (by assumption) (by assumption)
def G_XModel_areFunctions_194 (O : qOb9) (n : Nat) (rec7 : Nat → Int32 → Int32 → qS → Option (Int32 × qS)) (rec33 : Nat → Int32 → Int32 → Int32 → Int32 → qS → Option (Int32 × qS)) (l0 : Nat) (l2 : Int32) (l3 : Int32) (l4 : Int32) (s0 : Int32) (S : qS) : Option (Int32 × qS) :=
  hB (l4 + (1 : Int32)) (fun v1 =>
  rec33 l0 s0 l2 l3 v1 S)
set_option maxHeartbeats 4000000 in
set_option maxRecDepth 100000 in
theorem S_XModel_areFunctions_194 {O : qOb9} (hO : okO O) {n : Nat} {M0 : PM} {rec7 : Nat → Int32 → Int32 → PM → qO} {grec7 : Nat → Int32 → Int32 → qS → Option (Int32 × qS)} {rec33 : Nat → Int32 → Int32 → Int32 → Int32 → PM → qO} {grec33 : Nat → Int32 → Int32 → Int32 → Int32 → qS → Option (Int32 × qS)} (hrec7 : ∀ (l0 : Nat) (l1 : Int32) (l2 : Int32) (M : PM) (S : qS), Rp O M S → Fm O M0 M → Sim eI O M0 (rec7 l0 l1 l2 M) (grec7 l0 l1 l2 S)) (hrec33 : ∀ (l0 : Nat) (l1 : Int32) (l2 : Int32) (l3 : Int32) (l4 : Int32) (M : PM) (S : qS), Rp O M S → Fm O M0 M → Sim eI O M0 (rec33 l0 l1 l2 l3 l4 M) (grec33 l0 l1 l2 l3 l4 S)) {l0 : Nat} {l2 : Int32} {l3 : Int32} {l4 : Int32} {s0 : Int32} {M : PM} {S : qS} (R : Rp O M S) (H : Fm O M0 M) : Sim eI O M0 (F_XModel_areFunctions_194 n rec7 rec33 l0 l2 l3 l4 s0 M) (G_XModel_areFunctions_194 O n grec7 grec33 l0 l2 l3 l4 s0 S) := by
  unfold F_XModel_areFunctions_194 G_XModel_areFunctions_194
  refine sim_bI (fun _ => ?_)
  exact hrec33 _ _ _ _ _ _ _ (by assumption) (by assumption)
def G_XModel_areFunctions_193 (O : qOb9) (n : Nat) (rec7 : Nat → Int32 → Int32 → qS → Option (Int32 × qS)) (rec33 : Nat → Int32 → Int32 → Int32 → Int32 → qS → Option (Int32 × qS)) (l0 : Nat) (l2 : Int32) (l3 : Int32) (l4 : Int32) (S : qS) : Option (Int32 × qS) :=
  G_XModel_areFunctions_194 O n rec7 rec33 l0 l2 l3 l4 (0 : Int32) S
set_option maxHeartbeats 4000000 in
set_option maxRecDepth 100000 in
theorem S_XModel_areFunctions_193 {O : qOb9} (hO : okO O) {n : Nat} {M0 : PM} {rec7 : Nat → Int32 → Int32 → PM → qO} {grec7 : Nat → Int32 → Int32 → qS → Option (Int32 × qS)} {rec33 : Nat → Int32 → Int32 → Int32 → Int32 → PM → qO} {grec33 : Nat → Int32 → Int32 → Int32 → Int32 → qS → Option (Int32 × qS)} (hrec7 : ∀ (l0 : Nat) (l1 : Int32) (l2 : Int32) (M : PM) (S : qS), Rp O M S → Fm O M0 M → Sim eI O M0 (rec7 l0 l1 l2 M) (grec7 l0 l1 l2 S)) (hrec33 : ∀ (l0 : Nat) (l1 : Int32) (l2 : Int32) (l3 : Int32) (l4 : Int32) (M : PM) (S : qS), Rp O M S → Fm O M0 M → Sim eI O M0 (rec33 l0 l1 l2 l3 l4 M) (grec33 l0 l1 l2 l3 l4 S)) {l0 : Nat} {l2 : Int32} {l3 : Int32} {l4 : Int32} {M : PM} {S : qS} (R : Rp O M S) (H : Fm O M0 M) : Sim eI O M0 (F_XModel_areFunctions_193 n rec7 rec33 l0 l2 l3 l4 M) (G_XModel_areFunctions_193 O n grec7 grec33 l0 l2 l3 l4 S) := by
  unfold F_XModel_areFunctions_193 G_XModel_areFunctions_193
  exact S_XModel_areFunctions_194 hO hrec7 hrec33 (by assumption) (by assumption)
def G_XModel_areFunctions_189 (O : qOb9) (n : Nat) (rec7 : Nat → Int32 → Int32 → qS → Option (Int32 × qS)) (rec33 : Nat → Int32 → Int32 → Int32 → Int32 → qS → Option (Int32 × qS)) (l0 : Nat) (l2 : Int32) (l3 : Int32) (l4 : Int32) (S : qS) : Option (Int32 × qS) :=
  G_XModel_areFunctions_194 O n rec7 rec33 l0 l2 l3 l4 (1 : Int32) S
set_option maxHeartbeats 4000000 in
set_option maxRecDepth 100000 in
theorem S_XModel_areFunctions_189 {O : qOb9} (hO : okO O) {n : Nat} {M0 : PM} {rec7 : Nat → Int32 → Int32 → PM → qO} {grec7 : Nat → Int32 → Int32 → qS → Option (Int32 × qS)} {rec33 : Nat → Int32 → Int32 → Int32 → Int32 → PM → qO} {grec33 : Nat → Int32 → Int32 → Int32 → Int32 → qS → Option (Int32 × qS)} (hrec7 : ∀ (l0 : Nat) (l1 : Int32) (l2 : Int32) (M : PM) (S : qS), Rp O M S → Fm O M0 M → Sim eI O M0 (rec7 l0 l1 l2 M) (grec7 l0 l1 l2 S)) (hrec33 : ∀ (l0 : Nat) (l1 : Int32) (l2 : Int32) (l3 : Int32) (l4 : Int32) (M : PM) (S : qS), Rp O M S → Fm O M0 M → Sim eI O M0 (rec33 l0 l1 l2 l3 l4 M) (grec33 l0 l1 l2 l3 l4 S)) {l0 : Nat} {l2 : Int32} {l3 : Int32} {l4 : Int32} {M : PM} {S : qS} (R : Rp O M S) (H : Fm O M0 M) : Sim eI O M0 (F_XModel_areFunctions_189 n rec7 rec33 l0 l2 l3 l4 M) (G_XModel_areFunctions_189 O n grec7 grec33 l0 l2 l3 l4 S) := by
  unfold F_XModel_areFunctions_189 G_XModel_areFunctions_189
  exact S_XModel_areFunctions_194 hO hrec7 hrec33 (by assumption) (by assumption)
def G_XModel_areFunctions_162 (O : qOb9) (n : Nat) (rec7 : Nat → Int32 → Int32 → qS → Option (Int32 × qS)) (rec33 : Nat → Int32 → Int32 → Int32 → Int32 → qS → Option (Int32 × qS)) (l0 : Nat) (l1 : Int32) (l2 : Int32) (l3 : Int32) (l4 : Int32) (l5 : Int32) (s0 : Int32) (S : qS) : Option (Int32 × qS) :=
  if l1 = (0 : Int32) then
    G_XModel_areFunctions_193 O n rec7 rec33 l0 l2 l3 l4 S
  else
    if s0 = (0 : Int32) then
      G_XModel_areFunctions_189 O n rec7 rec33 l0 l2 l3 l4 S
    else
      hA 0 O l0 22 (fun v3 =>
      hl 0 O S v3 l3 (fun v4 =>
      hA 0 O l0 22 (fun v5 =>
      hl 0 O S v5 l5 (fun v6 =>
      if v4 = v6 then
        G_XModel_areFunctions_189 O n rec7 rec33 l0 l2 l3 l4 S
      else
        G_XModel_areFunctions_193 O n rec7 rec33 l0 l2 l3 l4 S))))
set_option maxHeartbeats 4000000 in
set_option maxRecDepth 100000 in
theorem S_XModel_areFunctions_162 {O : qOb9} (hO : okO O) {n : Nat} {M0 : PM} {rec7 : Nat → Int32 → Int32 → PM → qO} {grec7 : Nat → Int32 → Int32 → qS → Option (Int32 × qS)} {rec33 : Nat → Int32 → Int32 → Int32 → Int32 → PM → qO} {grec33 : Nat → Int32 → Int32 → Int32 → Int32 → qS → Option (Int32 × qS)} (hrec7 : ∀ (l0 : Nat) (l1 : Int32) (l2 : Int32) (M : PM) (S : qS), Rp O M S → Fm O M0 M → Sim eI O M0 (rec7 l0 l1 l2 M) (grec7 l0 l1 l2 S)) (hrec33 : ∀ (l0 : Nat) (l1 : Int32) (l2 : Int32) (l3 : Int32) (l4 : Int32) (M : PM) (S : qS), Rp O M S → Fm O M0 M → Sim eI O M0 (rec33 l0 l1 l2 l3 l4 M) (grec33 l0 l1 l2 l3 l4 S)) {l0 : Nat} {l1 : Int32} {l2 : Int32} {l3 : Int32} {l4 : Int32} {l5 : Int32} {s0 : Int32} {M : PM} {S : qS} (R : Rp O M S) (H : Fm O M0 M) : Sim eI O M0 (F_XModel_areFunctions_162 n rec7 rec33 l0 l1 l2 l3 l4 l5 s0 M) (G_XModel_areFunctions_162 O n grec7 grec33 l0 l1 l2 l3 l4 l5 s0 S) := by
  unfold F_XModel_areFunctions_162 G_XModel_areFunctions_162
  refine sim_if (fun _ => ?_) (fun _ => ?_)
  exact S_XModel_areFunctions_193 hO hrec7 hrec33 (by assumption) (by assumption)
  refine sim_if (fun _ => ?_) (fun _ => ?_)
  exact S_XModel_areFunctions_189 hO hrec7 hrec33 (by assumption) (by assumption)
  refine sim_gA (by assumption) (fun _ => ?_)
  refine sim_lI (by assumption) (fun _ => ?_)
  refine sim_gA (by assumption) (fun _ => ?_)
  refine sim_lI (by assumption) (fun _ => ?_)
  refine sim_if (fun _ => ?_) (fun _ => ?_)
  exact S_XModel_areFunctions_189 hO hrec7 hrec33 (by assumption) (by assumption)
  exact S_XModel_areFunctions_193 hO hrec7 hrec33 (by assumption) (by assumption)
def G_XModel_areFunctions_161 (O : qOb9) (n : Nat) (rec7 : Nat → Int32 → Int32 → qS → Option (Int32 × qS)) (rec33 : Nat → Int32 → Int32 → Int32 → Int32 → qS → Option (Int32 × qS)) (l0 : Nat) (l1 : Int32) (l2 : Int32) (l3 : Int32) (l4 : Int32) (l5 : Int32) (S : qS) : Option (Int32 × qS) :=
  G_XModel_areFunctions_162 O n rec7 rec33 l0 l1 l2 l3 l4 l5 (0 : Int32) S
set_option maxHeartbeats 4000000 in
set_option maxRecDepth 100000 in
theorem S_XModel_areFunctions_161 {O : qOb9} (hO : okO O) {n : Nat} {M0 : PM} {rec7 : Nat → Int32 → Int32 → PM → qO} {grec7 : Nat → Int32 → Int32 → qS → Option (Int32 × qS)} {rec33 : Nat → Int32 → Int32 → Int32 → Int32 → PM → qO} {grec33 : Nat → Int32 → Int32 → Int32 → Int32 → qS → Option (Int32 × qS)} (hrec7 : ∀ (l0 : Nat) (l1 : Int32) (l2 : Int32) (M : PM) (S : qS), Rp O M S → Fm O M0 M → Sim eI O M0 (rec7 l0 l1 l2 M) (grec7 l0 l1 l2 S)) (hrec33 : ∀ (l0 : Nat) (l1 : Int32) (l2 : Int32) (l3 : Int32) (l4 : Int32) (M : PM) (S : qS), Rp O M S → Fm O M0 M → Sim eI O M0 (rec33 l0 l1 l2 l3 l4 M) (grec33 l0 l1 l2 l3 l4 S)) {l0 : Nat} {l1 : Int32} {l2 : Int32} {l3 : Int32} {l4 : Int32} {l5 : Int32} {M : PM} {S : qS} (R : Rp O M S) (H : Fm O M0 M) : Sim eI O M0 (F_XModel_areFunctions_161 n rec7 rec33 l0 l1 l2 l3 l4 l5 M) (G_XModel_areFunctions_161 O n grec7 grec33 l0 l1 l2 l3 l4 l5 S) := by
  unfold F_XModel_areFunctions_161 G_XModel_areFunctions_161
  exact S_XModel_areFunctions_162 hO hrec7 hrec33 (by assumption) (by assumption)
def G_XModel_areFunctions_157 (O : qOb9) (n : Nat) (rec7 : Nat → Int32 → Int32 → qS → Option (Int32 × qS)) (rec33 : Nat → Int32 → Int32 → Int32 → Int32 → qS → Option (Int32 × qS)) (l0 : Nat) (l1 : Int32) (l2 : Int32) (l3 : Int32) (l4 : Int32) (l5 : Int32) (S : qS) : Option (Int32 × qS) :=
  G_XModel_areFunctions_162 O n rec7 rec33 l0 l1 l2 l3 l4 l5 (1 : Int32) S
set_option maxHeartbeats 4000000 in
set_option maxRecDepth 100000 in
theorem S_XModel_areFunctions_157 {O : qOb9} (hO : okO O) {n : Nat} {M0 : PM} {rec7 : Nat → Int32 → Int32 → PM → qO} {grec7 : Nat → Int32 → Int32 → qS → Option (Int32 × qS)} {rec33 : Nat → Int32 → Int32 → Int32 → Int32 → PM → qO} {grec33 : Nat → Int32 → Int32 → Int32 → Int32 → qS → Option (Int32 × qS)} (hrec7 : ∀ (l0 : Nat) (l1 : Int32) (l2 : Int32) (M : PM) (S : qS), Rp O M S → Fm O M0 M → Sim eI O M0 (rec7 l0 l1 l2 M) (grec7 l0 l1 l2 S)) (hrec33 : ∀ (l0 : Nat) (l1 : Int32) (l2 : Int32) (l3 : Int32) (l4 : Int32) (M : PM) (S : qS), Rp O M S → Fm O M0 M → Sim eI O M0 (rec33 l0 l1 l2 l3 l4 M) (grec33 l0 l1 l2 l3 l4 S)) {l0 : Nat} {l1 : Int32} {l2 : Int32} {l3 : Int32} {l4 : Int32} {l5 : Int32} {M : PM} {S : qS} (R : Rp O M S) (H : Fm O M0 M) : Sim eI O M0 (F_XModel_areFunctions_157 n rec7 rec33 l0 l1 l2 l3 l4 l5 M) (G_XModel_areFunctions_157 O n grec7 grec33 l0 l1 l2 l3 l4 l5 S) := by
  unfold F_XModel_areFunctions_157 G_XModel_areFunctions_157
  exact S_XModel_areFunctions_162 hO hrec7 hrec33 (by assumption) (by assumption)
def G_XModel_areFunctions_93 (O : qOb9) (n : Nat) (rec7 : Nat → Int32 → Int32 → qS → Option (Int32 × qS)) (rec33 : Nat → Int32 → Int32 → Int32 → Int32 → qS → Option (Int32 × qS)) (l0 : Nat) (l1 : Int32) (l2 : Int32) (l3 : Int32) (l4 : Int32) (l5 : Int32) (s0 : Int32) (s1 : Int32) (S : qS) : Option (Int32 × qS) :=
  if s0 = s1 then
    hA 0 O l0 22 (fun v2 =>
    hA 0 O l0 4 (fun v3 =>
    hl 0 O S v3 l3 (fun v4 =>
    hl 0 O S v2 v4 (fun v5 =>
    hA 0 O l0 22 (fun v6 =>
    hA 0 O l0 4 (fun v7 =>
    hl 0 O S v7 l5 (fun v8 =>
    hl 0 O S v6 v8 (fun v9 =>
    if v5 = v9 then
      hA 0 O l0 5 (fun v11 =>
      hl 0 O S v11 l3 (fun v12 =>
      if v12 < (0 : Int32) then
        G_XModel_areFunctions_157 O n rec7 rec33 l0 l1 l2 l3 l4 l5 S
      else
        hA 0 O l0 22 (fun v14 =>
        hA 0 O l0 5 (fun v15 =>
        hl 0 O S v15 l3 (fun v16 =>
        hl 0 O S v14 v16 (fun v17 =>
        hA 0 O l0 22 (fun v18 =>
        hA 0 O l0 5 (fun v19 =>
        hl 0 O S v19 l5 (fun v20 =>
        hl 0 O S v18 v20 (fun v21 =>
        if v17 = v21 then
          G_XModel_areFunctions_157 O n rec7 rec33 l0 l1 l2 l3 l4 l5 S
        else
          G_XModel_areFunctions_161 O n rec7 rec33 l0 l1 l2 l3 l4 l5 S))))))))))
    else
      G_XModel_areFunctions_161 O n rec7 rec33 l0 l1 l2 l3 l4 l5 S))))))))
  else
    G_XModel_areFunctions_161 O n rec7 rec33 l0 l1 l2 l3 l4 l5 S
set_option maxHeartbeats 4000000 in
set_option maxRecDepth 100000 in
theorem S_XModel_areFunctions_93 {O : qOb9} (hO : okO O) {n : Nat} {M0 : PM} {rec7 : Nat → Int32 → Int32 → PM → qO} {grec7 : Nat → Int32 → Int32 → qS → Option (Int32 × qS)} {rec33 : Nat → Int32 → Int32 → Int32 → Int32 → PM → qO} {grec33 : Nat → Int32 → Int32 → Int32 → Int32 → qS → Option (Int32 × qS)} (hrec7 : ∀ (l0 : Nat) (l1 : Int32) (l2 : Int32) (M : PM) (S : qS), Rp O M S → Fm O M0 M → Sim eI O M0 (rec7 l0 l1 l2 M) (grec7 l0 l1 l2 S)) (hrec33 : ∀ (l0 : Nat) (l1 : Int32) (l2 : Int32) (l3 : Int32) (l4 : Int32) (M : PM) (S : qS), Rp O M S → Fm O M0 M → Sim eI O M0 (rec33 l0 l1 l2 l3 l4 M) (grec33 l0 l1 l2 l3 l4 S)) {l0 : Nat} {l1 : Int32} {l2 : Int32} {l3 : Int32} {l4 : Int32} {l5 : Int32} {s0 : Int32} {s1 : Int32} {M : PM} {S : qS} (R : Rp O M S) (H : Fm O M0 M) : Sim eI O M0 (F_XModel_areFunctions_93 n rec7 rec33 l0 l1 l2 l3 l4 l5 s0 s1 M) (G_XModel_areFunctions_93 O n grec7 grec33 l0 l1 l2 l3 l4 l5 s0 s1 S) := by
  unfold F_XModel_areFunctions_93 G_XModel_areFunctions_93
  refine sim_if (fun _ => ?_) (fun _ => ?_)
  refine sim_gA (by assumption) (fun _ => ?_)
  refine sim_gA (by assumption) (fun _ => ?_)
  refine sim_lI (by assumption) (fun _ => ?_)
  refine sim_lI (by assumption) (fun _ => ?_)
  refine sim_gA (by assumption) (fun _ => ?_)
  refine sim_gA (by assumption) (fun _ => ?_)
  refine sim_lI (by assumption) (fun _ => ?_)
  refine sim_lI (by assumption) (fun _ => ?_)
  refine sim_if (fun _ => ?_) (fun _ => ?_)
  refine sim_gA (by assumption) (fun _ => ?_)
  refine sim_lI (by assumption) (fun _ => ?_)
  refine sim_if (fun _ => ?_) (fun _ => ?_)
  exact S_XModel_areFunctions_157 hO hrec7 hrec33 (by assumption) (by assumption)
  refine sim_gA (by assumption) (fun _ => ?_)
  refine sim_gA (by assumption) (fun _ => ?_)
  refine sim_lI (by assumption) (fun _ => ?_)
  refine sim_lI (by assumption) (fun _ => ?_)
  refine sim_gA (by assumption) (fun _ => ?_)
  refine sim_gA (by assumption) (fun _ => ?_)
  refine sim_lI (by assumption) (fun _ => ?_)
  refine sim_lI (by assumption) (fun _ => ?_)
  refine sim_if (fun _ => ?_) (fun _ => ?_)
  exact S_XModel_areFunctions_157 hO hrec7 hrec33 (by assumption) (by assumption)
  exact S_XModel_areFunctions_161 hO hrec7 hrec33 (by assumption) (by assumption)
  exact S_XModel_areFunctions_161 hO hrec7 hrec33 (by assumption) (by assumption)
  exact S_XModel_areFunctions_161 hO hrec7 hrec33 (by assumption) (by assumption)
def G_XModel_areFunctions_78 (O : qOb9) (n : Nat) (rec7 : Nat → Int32 → Int32 → qS → Option (Int32 × qS)) (rec33 : Nat → Int32 → Int32 → Int32 → Int32 → qS → Option (Int32 × qS)) (l0 : Nat) (l1 : Int32) (l2 : Int32) (l3 : Int32) (l4 : Int32) (l5 : Int32) (s0 : Int32) (S : qS) : Option (Int32 × qS) :=
  hA 0 O l0 5 (fun v1 =>
  hl 0 O S v1 l5 (fun v2 =>
  if (0 : Int32) ≤ v2 then
    G_XModel_areFunctions_93 O n rec7 rec33 l0 l1 l2 l3 l4 l5 s0 (0 : Int32) S
  else
    G_XModel_areFunctions_93 O n rec7 rec33 l0 l1 l2 l3 l4 l5 s0 (1 : Int32) S))
set_option maxHeartbeats 4000000 in
set_option maxRecDepth 100000 in
theorem S_XModel_areFunctions_78 {O : qOb9} (hO : okO O) {n : Nat} {M0 : PM} {rec7 : Nat → Int32 → Int32 → PM → qO} {grec7 : Nat → Int32 → Int32 → qS → Option (Int32 × qS)} {rec33 : Nat → Int32 → Int32 → Int32 → Int32 → PM → qO} {grec33 : Nat → Int32 → Int32 → Int32 → Int32 → qS → Option (Int32 × qS)} (hrec7 : ∀ (l0 : Nat) (l1 : Int32) (l2 : Int32) (M : PM) (S : qS), Rp O M S → Fm O M0 M → Sim eI O M0 (rec7 l0 l1 l2 M) (grec7 l0 l1 l2 S)) (hrec33 : ∀ (l0 : Nat) (l1 : Int32) (l2 : Int32) (l3 : Int32) (l4 : Int32) (M : PM) (S : qS), Rp O M S → Fm O M0 M → Sim eI O M0 (rec33 l0 l1 l2 l3 l4 M) (grec33 l0 l1 l2 l3 l4 S)) {l0 : Nat} {l1 : Int32} {l2 : Int32} {l3 : Int32} {l4 : Int32} {l5 : Int32} {s0 : Int32} {M : PM} {S : qS} (R : Rp O M S) (H : Fm O M0 M) : Sim eI O M0 (F_XModel_areFunctions_78 n rec7 rec33 l0 l1 l2 l3 l4 l5 s0 M) (G_XModel_areFunctions_78 O n grec7 grec33 l0 l1 l2 l3 l4 l5 s0 S) := by
  unfold F_XModel_areFunctions_78 G_XModel_areFunctions_78
  refine sim_gA (by assumption) (fun _ => ?_)
  refine sim_lI (by assumption) (fun _ => ?_)
  refine sim_if (fun _ => ?_) (fun _ => ?_)
  exact S_XModel_areFunctions_93 hO hrec7 hrec33 (by assumption) (by assumption)
  exact S_XModel_areFunctions_93 hO hrec7 hrec33 (by assumption) (by assumption)
def G_XModel_areFunctions_33 (O : qOb9) (n : Nat) (rec7 : Nat → Int32 → Int32 → qS → Option (Int32 × qS)) : Nat → Nat → Int32 → Int32 → Int32 → Int32 → qS → Option (Int32 × qS)
  | 0, _, _, _, _, _, _ => none
  | f + 1, l0, l1, l2, l3, l4, S =>
    if l2 ≤ l4 then
      hB (l2 + (1 : Int32)) (fun v2 =>
      rec7 l0 l1 v2 S)
    else
      hA 0 O l0 26 (fun v3 =>
      hl 0 O S v3 l4 (fun v4 =>
      hA 0 O l0 6 (fun v5 =>
      hl 0 O S v5 l3 (fun v6 =>
      hA 0 O l0 6 (fun v7 =>
      hl 0 O S v7 v4 (fun v8 =>
      if v6 = v8 then
        hA 0 O l0 5 (fun v10 =>
        hl 0 O S v10 l3 (fun v11 =>
        if (0 : Int32) ≤ v11 then
          G_XModel_areFunctions_78 O n rec7 (G_XModel_areFunctions_33 O n rec7 f) l0 l1 l2 l3 l4 v4 (0 : Int32) S
        else
          G_XModel_areFunctions_78 O n rec7 (G_XModel_areFunctions_33 O n rec7 f) l0 l1 l2 l3 l4 v4 (1 : Int32) S))
      else
        G_XModel_areFunctions_161 O n rec7 (G_XModel_areFunctions_33 O n rec7 f) l0 l1 l2 l3 l4 v4 S))))))
set_option maxHeartbeats 4000000 in
set_option maxRecDepth 100000 in
theorem S_XModel_areFunctions_33 {O : qOb9} (hO : okO O) {n : Nat} {M0 : PM} {rec7 : Nat → Int32 → Int32 → PM → qO} {grec7 : Nat → Int32 → Int32 → qS → Option (Int32 × qS)} (hrec7 : ∀ (l0 : Nat) (l1 : Int32) (l2 : Int32) (M : PM) (S : qS), Rp O M S → Fm O M0 M → Sim eI O M0 (rec7 l0 l1 l2 M) (grec7 l0 l1 l2 S)) : ∀ (f : Nat) (l0 : Nat) (l1 : Int32) (l2 : Int32) (l3 : Int32) (l4 : Int32) (M : PM) (S : qS), Rp O M S → Fm O M0 M → Sim eI O M0 (F_XModel_areFunctions_33 n rec7 f l0 l1 l2 l3 l4 M) (G_XModel_areFunctions_33 O n grec7 f l0 l1 l2 l3 l4 S) := by
  intro f
  induction f with
  | zero => intro l0 l1 l2 l3 l4 M S _ _; rw [G_XModel_areFunctions_33]; exact sim_none
  | succ f ih =>
    intro l0 l1 l2 l3 l4 M S R H
    rw [F_XModel_areFunctions_33, G_XModel_areFunctions_33]
    refine sim_if (fun _ => ?_) (fun _ => ?_)
    refine sim_bI (fun _ => ?_)
    exact hrec7 _ _ _ _ _ (by assumption) (by assumption)
    refine sim_gA (by assumption) (fun _ => ?_)
    refine sim_lI (by assumption) (fun _ => ?_)
    refine sim_gA (by assumption) (fun _ => ?_)
    refine sim_lI (by assumption) (fun _ => ?_)
    refine sim_gA (by assumption) (fun _ => ?_)
    refine sim_lI (by assumption) (fun _ => ?_)
    refine sim_if (fun _ => ?_) (fun _ => ?_)
    refine sim_gA (by assumption) (fun _ => ?_)
    refine sim_lI (by assumption) (fun _ => ?_)
    refine sim_if (fun _ => ?_) (fun _ => ?_)
    exact S_XModel_areFunctions_78 hO hrec7 ih (by assumption) (by assumption)
    exact S_XModel_areFunctions_78 hO hrec7 ih (by assumption) (by assumption)
    exact S_XModel_areFunctions_161 hO hrec7 ih (by assumption) (by assumption)
def G_XModel_areFunctions_7 (O : qOb9) (n : Nat) : Nat → Nat → Int32 → Int32 → qS → Option (Int32 × qS)
  | 0, _, _, _, _ => none
  | f + 1, l0, l1, l2, S =>
    hI 0 O S l0 23 (fun v1 =>
    hI 0 O S l0 24 (fun v2 =>
    if (v1 + v2) ≤ l2 then
      hz l1 S
    else
      hA 0 O l0 26 (fun v4 =>
      hl 0 O S v4 l2 (fun v5 =>
      hI 0 O S l0 23 (fun v6 =>
      G_XModel_areFunctions_33 O n (G_XModel_areFunctions_7 O n f) n l0 l1 l2 v5 v6 S)))))
set_option maxHeartbeats 4000000 in
set_option maxRecDepth 100000 in
theorem S_XModel_areFunctions_7 {O : qOb9} (hO : okO O) {n : Nat} {M0 : PM} : ∀ (f : Nat) (l0 : Nat) (l1 : Int32) (l2 : Int32) (M : PM) (S : qS), Rp O M S → Fm O M0 M → Sim eI O M0 (F_XModel_areFunctions_7 n f l0 l1 l2 M) (G_XModel_areFunctions_7 O n f l0 l1 l2 S) := by
  intro f
  induction f with
  | zero => intro l0 l1 l2 M S _ _; rw [G_XModel_areFunctions_7]; exact sim_none
  | succ f ih =>
    intro l0 l1 l2 M S R H
    rw [F_XModel_areFunctions_7, G_XModel_areFunctions_7]
    refine sim_gI (by assumption) (fun _ => ?_)
    refine sim_gI (by assumption) (fun _ => ?_)
    refine sim_if (fun _ => ?_) (fun _ => ?_)
    exact sim_rZ (by assumption) (by assumption)
    refine sim_gA (by assumption) (fun _ => ?_)
    refine sim_lI (by assumption) (fun _ => ?_)
    refine sim_gI (by assumption) (fun _ => ?_)
    exact S_XModel_areFunctions_33 hO ih _ _ _ _ _ _ _ _ (by assumption) (by assumption)
def G_XModel_areFunctions (O : qOb9) (n : Nat) (l0 : Nat) (S : qS) : Option (Int32 × qS) :=
  hI 0 O S l0 23 (fun v1 =>
  G_XModel_areFunctions_7 O n n l0 (1 : Int32) v1 S)
set_option maxHeartbeats 4000000 in
set_option maxRecDepth 100000 in
theorem S_XModel_areFunctions {O : qOb9} (hO : okO O) {n : Nat} {M0 : PM} {l0 : Nat} {M : PM} {S : qS} (R : Rp O M S) (H : Fm O M0 M) : Sim eI O M0 (F_XModel_areFunctions n l0 M) (G_XModel_areFunctions O n l0 S) := by
  unfold F_XModel_areFunctions G_XModel_areFunctions
  refine sim_gI (by assumption) (fun _ => ?_)
  exact S_XModel_areFunctions_7 hO _ _ _ _ _ _ (by assumption) (by assumption)
def G_XModel_failing_51 (O : qOb9) (n : Nat) (s0 : Int32) (S : qS) : Option (Int32 × qS) :=
  some (s0, S)
set_option maxHeartbeats 4000000 in
set_option maxRecDepth 100000 in
theorem S_XModel_failing_51 {O : qOb9} (hO : okO O) {n : Nat} {M0 : PM} {s0 : Int32} {M : PM} {S : qS} (R : Rp O M S) (H : Fm O M0 M) : Sim eI O M0 (F_XModel_failing_51 n s0 M) (G_XModel_failing_51 O n s0 S) := by
  unfold F_XModel_failing_51 G_XModel_failing_51
  exact sim_retI (by assumption) (by assumption)
def G_XModel_failing_98 (O : qOb9) (n : Nat) (rec54 : Nat → Int32 → qS → Option (Int32 × qS)) (l0 : Nat) (l2 : Int32) (S : qS) : Option (Int32 × qS) :=
  hB (l2 + (1 : Int32)) (fun v1 =>
  rec54 l0 v1 S)
set_option maxHeartbeats 4000000 in
set_option maxRecDepth 100000 in
theorem S_XModel_failing_98 {O : qOb9} (hO : okO O) {n : Nat} {M0 : PM} {rec54 : Nat → Int32 → PM → qO} {grec54 : Nat → Int32 → qS → Option (Int32 × qS)} (hrec54 : ∀ (l0 : Nat) (l2 : Int32) (M : PM) (S : qS), Rp O M S → Fm O M0 M → Sim eI O M0 (rec54 l0 l2 M) (grec54 l0 l2 S)) {l0 : Nat} {l2 : Int32} {M : PM} {S : qS} (R : Rp O M S) (H : Fm O M0 M) : Sim eI O M0 (F_XModel_failing_98 n rec54 l0 l2 M) (G_XModel_failing_98 O n grec54 l0 l2 S) := by
  unfold F_XModel_failing_98 G_XModel_failing_98
  refine sim_bI (fun _ => ?_)
  exact hrec54 _ _ _ _ (by assumption) (by assumption)
def G_XModel_failing_54 (O : qOb9) (n : Nat) : Nat → Nat → Int32 → qS → Option (Int32 × qS)
  | 0, _, _, _ => none
  | f + 1, l0, l2, S =>
    hI 0 O S l0 9 (fun v1 =>
    if v1 ≤ l2 then
      some ((-1 : Int32), S)
    else
      hA 0 O l0 15 (fun v3 =>
      hl 1 O S v3 l2 (fun v4 =>
      if v4 = (0 : Int32) then
        G_XModel_failing_98 O n (G_XModel_failing_54 O n f) l0 l2 S
      else
        hA 0 O l0 22 (fun v6 =>
        hA 0 O l0 19 (fun v7 =>
        hl 0 O S v7 l2 (fun v8 =>
        hl 0 O S v6 v8 (fun v9 =>
        hA 0 O l0 22 (fun v10 =>
        hA 0 O l0 20 (fun v11 =>
        hl 0 O S v11 l2 (fun v12 =>
        hl 0 O S v10 v12 (fun v13 =>
        if v9 = v13 then
          G_XModel_failing_98 O n (G_XModel_failing_54 O n f) l0 l2 S
        else
          some (l2, S))))))))))))
set_option maxHeartbeats 4000000 in
set_option maxRecDepth 100000 in
theorem S_XModel_failing_54 {O : qOb9} (hO : okO O) {n : Nat} {M0 : PM} : ∀ (f : Nat) (l0 : Nat) (l2 : Int32) (M : PM) (S : qS), Rp O M S → Fm O M0 M → Sim eI O M0 (F_XModel_failing_54 n f l0 l2 M) (G_XModel_failing_54 O n f l0 l2 S) := by
  intro f
  induction f with
  | zero => intro l0 l2 M S _ _; rw [G_XModel_failing_54]; exact sim_none
  | succ f ih =>
    intro l0 l2 M S R H
    rw [F_XModel_failing_54, G_XModel_failing_54]
    refine sim_gI (by assumption) (fun _ => ?_)
    refine sim_if (fun _ => ?_) (fun _ => ?_)
    exact sim_retI (by assumption) (by assumption)
    refine sim_gA (by assumption) (fun _ => ?_)
    refine sim_lZ (by assumption) (fun _ => ?_)
    refine sim_if (fun _ => ?_) (fun _ => ?_)
    exact S_XModel_failing_98 hO ih (by assumption) (by assumption)
    refine sim_gA (by assumption) (fun _ => ?_)
    refine sim_gA (by assumption) (fun _ => ?_)
    refine sim_lI (by assumption) (fun _ => ?_)
    refine sim_lI (by assumption) (fun _ => ?_)
    refine sim_gA (by assumption) (fun _ => ?_)
    refine sim_gA (by assumption) (fun _ => ?_)
    refine sim_lI (by assumption) (fun _ => ?_)
    refine sim_lI (by assumption) (fun _ => ?_)
    refine sim_if (fun _ => ?_) (fun _ => ?_)
    exact S_XModel_failing_98 hO ih (by assumption) (by assumption)
    exact sim_retI (by assumption) (by assumption)
def G_XModel_failing_2 (O : qOb9) (n : Nat) : Nat → Nat → Int32 → Int32 → qS → Option (Int32 × qS)
  | 0, _, _, _, _ => none
  | f + 1, l0, l1, l2, S =>
    hI 0 O S l0 10 (fun v1 =>
    if v1 ≤ l2 then
      if l1 < (0 : Int32) then
        G_XModel_failing_54 O n n l0 (0 : Int32) S
      else
        hA 0 O l0 22 (fun v4 =>
        hl 0 O S v4 l1 (fun v5 =>
        if v5 = (0 : Int32) then
          G_XModel_failing_51 O n (16 : Int32) S
        else
          G_XModel_failing_51 O n (-1 : Int32) S))
    else
      hA 0 O l0 22 (fun v7 =>
      hA 0 O l0 16 (fun v8 =>
      hl 0 O S v8 l2 (fun v9 =>
      hl 0 O S v7 v9 (fun v10 =>
      if v10 = (0 : Int32) then
        some ((-1 : Int32), S)
      else
        hB (l2 + (1 : Int32)) (fun v12 =>
        (G_XModel_failing_2 O n f) l0 l1 v12 S))))))
set_option maxHeartbeats 4000000 in
set_option maxRecDepth 100000 in
theorem S_XModel_failing_2 {O : qOb9} (hO : okO O) {n : Nat} {M0 : PM} : ∀ (f : Nat) (l0 : Nat) (l1 : Int32) (l2 : Int32) (M : PM) (S : qS), Rp O M S → Fm O M0 M → Sim eI O M0 (F_XModel_failing_2 n f l0 l1 l2 M) (G_XModel_failing_2 O n f l0 l1 l2 S) := by
  intro f
  induction f with
  | zero => intro l0 l1 l2 M S _ _; rw [G_XModel_failing_2]; exact sim_none
  | succ f ih =>
    intro l0 l1 l2 M S R H
    rw [F_XModel_failing_2, G_XModel_failing_2]
    refine sim_gI (by assumption) (fun _ => ?_)
    refine sim_if (fun _ => ?_) (fun _ => ?_)
    refine sim_if (fun _ => ?_) (fun _ => ?_)
    exact S_XModel_failing_54 hO _ _ _ _ _ (by assumption) (by assumption)
    refine sim_gA (by assumption) (fun _ => ?_)
    refine sim_lI (by assumption) (fun _ => ?_)
    refine sim_if (fun _ => ?_) (fun _ => ?_)
    exact S_XModel_failing_51 hO (by assumption) (by assumption)
    exact S_XModel_failing_51 hO (by assumption) (by assumption)
    refine sim_gA (by assumption) (fun _ => ?_)
    refine sim_gA (by assumption) (fun _ => ?_)
    refine sim_lI (by assumption) (fun _ => ?_)
    refine sim_lI (by assumption) (fun _ => ?_)
    refine sim_if (fun _ => ?_) (fun _ => ?_)
    exact sim_retI (by assumption) (by assumption)
    refine sim_bI (fun _ => ?_)
    exact ih _ _ _ _ _ (by assumption) (by assumption)
def G_XModel_failing (O : qOb9) (n : Nat) (l0 : Nat) (l1 : Int32) (S : qS) : Option (Int32 × qS) :=
  G_XModel_failing_2 O n n l0 l1 (0 : Int32) S
set_option maxHeartbeats 4000000 in
set_option maxRecDepth 100000 in
theorem S_XModel_failing {O : qOb9} (hO : okO O) {n : Nat} {M0 : PM} {l0 : Nat} {l1 : Int32} {M : PM} {S : qS} (R : Rp O M S) (H : Fm O M0 M) : Sim eI O M0 (F_XModel_failing n l0 l1 M) (G_XModel_failing O n l0 l1 S) := by
  unfold F_XModel_failing G_XModel_failing
  exact S_XModel_failing_2 hO _ _ _ _ _ _ (by assumption) (by assumption)
