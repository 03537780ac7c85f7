def G_XModel_goesOn_45 (O : qOb9) (n : Nat) (rec4 : Nat → Int32 → Int32 → Int32 → qS → Option (Int32 × qS)) (rec15 : Nat → Int32 → Int32 → Int32 → Int32 → Int32 → qS → Option (Int32 × qS)) (l0 : Nat) (l1 : Int32) (l2 : Int32) (l3 : Int32) (l5 : Int32) (s0 : Int32) (S : qS) : Option (Int32 × qS) :=
  hB (l5 + (1 : Int32)) (fun v1 =>
  rec15 l0 l1 l2 l3 s0 v1 S)
set_option maxHeartbeats 4000000 in
set_option maxRecDepth 100000 in
theorem S_XModel_goesOn_45 {O : qOb9} (hO : okO O) {n : Nat} {M0 : PM} {rec4 : Nat → Int32 → Int32 → Int32 → PM → qO} {grec4 : Nat → Int32 → Int32 → Int32 → qS → Option (Int32 × qS)} {rec15 : Nat → Int32 → Int32 → Int32 → Int32 → Int32 → PM → qO} {grec15 : Nat → Int32 → Int32 → Int32 → Int32 → Int32 → qS → Option (Int32 × qS)} (hrec4 : ∀ (l0 : Nat) (l1 : Int32) (l2 : Int32) (l3 : Int32) (M : PM) (S : qS), Rp O M S → Fm O M0 M → Sim eI O M0 (rec4 l0 l1 l2 l3 M) (grec4 l0 l1 l2 l3 S)) (hrec15 : ∀ (l0 : Nat) (l1 : Int32) (l2 : Int32) (l3 : Int32) (l4 : Int32) (l5 : Int32) (M : PM) (S : qS), Rp O M S → Fm O M0 M → Sim eI O M0 (rec15 l0 l1 l2 l3 l4 l5 M) (grec15 l0 l1 l2 l3 l4 l5 S)) {l0 : Nat} {l1 : Int32} {l2 : Int32} {l3 : Int32} {l5 : Int32} {s0 : Int32} {M : PM} {S : qS} (R : Rp O M S) (H : Fm O M0 M) : Sim eI O M0 (F_XModel_goesOn_45 n rec4 rec15 l0 l1 l2 l3 l5 s0 M) (G_XModel_goesOn_45 O n grec4 grec15 l0 l1 l2 l3 l5 s0 S) := by
  unfold F_XModel_goesOn_45 G_XModel_goesOn_45
  refine sim_bI (fun _ => ?_)
  exact hrec15 _ _ _ _ _ _ _ _ (by assumption) (by assumption)
def G_XModel_goesOn_79 (O : qOb9) (n : Nat) : Nat → Nat → Int32 → Int32 → qS → Option (Int32 × qS)
  | 0, _, _, _, _ => none
  | f + 1, l0, l2, l5, S =>
    if l2 ≤ l5 then
      some ((1 : Int32), S)
    else
      hA 0 O l0 27 (fun v2 =>
      hw 0 O S v2 l5 (0 : Int32) (fun S3 =>
      hB (l5 + (1 : Int32)) (fun v4 =>
      (G_XModel_goesOn_79 O n f) l0 l2 v4 S3)))
set_option maxHeartbeats 4000000 in
set_option maxRecDepth 100000 in
theorem S_XModel_goesOn_79 {O : qOb9} (hO : okO O) {n : Nat} {M0 : PM} : ∀ (f : Nat) (l0 : Nat) (l2 : Int32) (l5 : Int32) (M : PM) (S : qS), Rp O M S → Fm O M0 M → Sim eI O M0 (F_XModel_goesOn_79 n f l0 l2 l5 M) (G_XModel_goesOn_79 O n f l0 l2 l5 S) := by
  intro f
  induction f with
  | zero => intro l0 l2 l5 M S _ _; rw [G_XModel_goesOn_79]; exact sim_none
  | succ f ih =>
    intro l0 l2 l5 M S R H
    rw [F_XModel_goesOn_79, G_XModel_goesOn_79]
    refine sim_if (fun _ => ?_) (fun _ => ?_)
    exact sim_retI (by assumption) (by assumption)
    refine sim_gA (by assumption) (fun _ => ?_)
    refine sim_wI hO (by assumption) (by assumption) (fun _ _ _ _ => ?_)
    refine sim_bI (fun _ => ?_)
    exact ih _ _ _ _ _ (by assumption) (by assumption)
def G_XModel_goesOn_15 (O : qOb9) (n : Nat) (rec4 : Nat → Int32 → Int32 → Int32 → qS → Option (Int32 × qS)) : Nat → Nat → Int32 → Int32 → Int32 → Int32 → Int32 → qS → Option (Int32 × qS)
  | 0, _, _, _, _, _, _, _ => none
  | f + 1, l0, l1, l2, l3, l4, l5, S =>
    if l3 ≤ l5 then
      hA 0 O l0 27 (fun v2 =>
      hl 0 O S v2 l3 (fun v3 =>
      if l4 < v3 then
        hB (l3 + (-1 : Int32)) (fun v5 =>
        rec4 l0 l1 l2 v5 S)
      else
        hA 0 O l0 27 (fun v6 =>
        hl 0 O S v6 l3 (fun v7 =>
        hw 0 O S v6 l3 (v7 + (1 : Int32)) (fun S8 =>
        hB (l3 + (1 : Int32)) (fun v9 =>
        G_XModel_goesOn_79 O n n l0 l2 v9 S8))))))
    else
      hA 0 O l0 27 (fun v10 =>
      hl 0 O S v10 l5 (fun v11 =>
      if v11 ≤ l4 then
        G_XModel_goesOn_45 O n rec4 (G_XModel_goesOn_15 O n rec4 f) l0 l1 l2 l3 l5 l4 S
      else
        hA 0 O l0 27 (fun v13 =>
        hl 0 O S v13 l5 (fun v14 =>
        G_XModel_goesOn_45 O n rec4 (G_XModel_goesOn_15 O n rec4 f) l0 l1 l2 l3 l5 v14 S))))
set_option maxHeartbeats 4000000 in
set_option maxRecDepth 100000 in
theorem S_XModel_goesOn_15 {O : qOb9} (hO : okO O) {n : Nat} {M0 : PM} {rec4 : Nat → Int32 → Int32 → Int32 → PM → qO} {grec4 : Nat → Int32 → Int32 → Int32 → qS → Option (Int32 × qS)} (hrec4 : ∀ (l0 : Nat) (l1 : Int32) (l2 : Int32) (l3 : Int32) (M : PM) (S : qS), Rp O M S → Fm O M0 M → Sim eI O M0 (rec4 l0 l1 l2 l3 M) (grec4 l0 l1 l2 l3 S)) : ∀ (f : Nat) (l0 : Nat) (l1 : Int32) (l2 : Int32) (l3 : Int32) (l4 : Int32) (l5 : Int32) (M : PM) (S : qS), Rp O M S → Fm O M0 M → Sim eI O M0 (F_XModel_goesOn_15 n rec4 f l0 l1 l2 l3 l4 l5 M) (G_XModel_goesOn_15 O n grec4 f l0 l1 l2 l3 l4 l5 S) := by
  intro f
  induction f with
  | zero => intro l0 l1 l2 l3 l4 l5 M S _ _; rw [G_XModel_goesOn_15]; exact sim_none
  | succ f ih =>
    intro l0 l1 l2 l3 l4 l5 M S R H
    rw [F_XModel_goesOn_15, G_XModel_goesOn_15]
    refine sim_if (fun _ => ?_) (fun _ => ?_)
    refine sim_gA (by assumption) (fun _ => ?_)
    refine sim_lI (by assumption) (fun _ => ?_)
    refine sim_if (fun _ => ?_) (fun _ => ?_)
    refine sim_bI (fun _ => ?_)
    exact hrec4 _ _ _ _ _ _ (by assumption) (by assumption)
    refine sim_gA (by assumption) (fun _ => ?_)
    refine sim_lI (by assumption) (fun _ => ?_)
    refine sim_wI hO (by assumption) (by assumption) (fun _ _ _ _ => ?_)
    refine sim_bI (fun _ => ?_)
    exact S_XModel_goesOn_79 hO _ _ _ _ _ _ (by assumption) (by assumption)
    refine sim_gA (by assumption) (fun _ => ?_)
    refine sim_lI (by assumption) (fun _ => ?_)
    refine sim_if (fun _ => ?_) (fun _ => ?_)
    exact S_XModel_goesOn_45 hO hrec4 ih (by assumption) (by assumption)
    refine sim_gA (by assumption) (fun _ => ?_)
    refine sim_lI (by assumption) (fun _ => ?_)
    exact S_XModel_goesOn_45 hO hrec4 ih (by assumption) (by assumption)
def G_XModel_goesOn_4 (O : qOb9) (n : Nat) : Nat → Nat → Int32 → Int32 → Int32 → qS → Option (Int32 × qS)
  | 0, _, _, _, _, _ => none
  | f + 1, l0, l1, l2, l3, S =>
    if l3 < l1 then
      some ((0 : Int32), S)
    else
      G_XModel_goesOn_15 O n (G_XModel_goesOn_4 O n f) n l0 l1 l2 l3 (-1 : Int32) (0 : Int32) S
set_option maxHeartbeats 4000000 in
set_option maxRecDepth 100000 in
theorem S_XModel_goesOn_4 {O : qOb9} (hO : okO O) {n : Nat} {M0 : PM} : ∀ (f : Nat) (l0 : Nat) (l1 : Int32) (l2 : Int32) (l3 : Int32) (M : PM) (S : qS), Rp O M S → Fm O M0 M → Sim eI O M0 (F_XModel_goesOn_4 n f l0 l1 l2 l3 M) (G_XModel_goesOn_4 O n f l0 l1 l2 l3 S) := by
  intro f
  induction f with
  | zero => intro l0 l1 l2 l3 M S _ _; rw [G_XModel_goesOn_4]; exact sim_none
  | succ f ih =>
    intro l0 l1 l2 l3 M S R H
    rw [F_XModel_goesOn_4, G_XModel_goesOn_4]
    refine sim_if (fun _ => ?_) (fun _ => ?_)
    exact sim_retI (by assumption) (by assumption)
    exact S_XModel_goesOn_15 hO ih _ _ _ _ _ _ _ _ _ (by assumption) (by assumption)
def G_XModel_goesOn (O : qOb9) (n : Nat) (l0 : Nat) (l1 : Int32) (l2 : Int32) (S : qS) : Option (Int32 × qS) :=
  hB (l2 - (1 : Int32)) (fun v1 =>
  G_XModel_goesOn_4 O n n l0 l1 l2 v1 S)
set_option maxHeartbeats 4000000 in
set_option maxRecDepth 100000 in
theorem S_XModel_goesOn {O : qOb9} (hO : okO O) {n : Nat} {M0 : PM} {l0 : Nat} {l1 : Int32} {l2 : Int32} {M : PM} {S : qS} (R : Rp O M S) (H : Fm O M0 M) : Sim eI O M0 (F_XModel_goesOn n l0 l1 l2 M) (G_XModel_goesOn O n l0 l1 l2 S) := by
  unfold F_XModel_goesOn G_XModel_goesOn
  refine sim_bI (fun _ => ?_)
  exact S_XModel_goesOn_4 hO _ _ _ _ _ _ _ (by assumption) (by assumption)
def G_XModel_failsWith_124 (O : qOb9) (n : Nat) (rec35 : Nat → Int32 → Int32 → Int32 → qS → Option (Int32 × qS)) (l0 : Nat) (l1 : Int32) (s0 : Int32) (S : qS) : Option (Int32 × qS) :=
  hI 0 O S l0 23 (fun v1 =>
  hI 0 O S l0 23 (fun v2 =>
  hI 0 O S l0 24 (fun v3 =>
  hk 0 O l0 (
  yC (G_XModel_goesOn O n l0 v1 (v2 + v3) S) (fun v5 S4 =>
  rec35 l0 l1 s0 v5 S4)))))
set_option maxHeartbeats 4000000 in
set_option maxRecDepth 100000 in
theorem S_XModel_failsWith_124 {O : qOb9} (hO : okO O) {n : Nat} {M0 : PM} {rec35 : Nat → Int32 → Int32 → Int32 → PM → qO} {grec35 : Nat → Int32 → Int32 → Int32 → qS → Option (Int32 × qS)} (hrec35 : ∀ (l0 : Nat) (l1 : Int32) (l2 : Int32) (l3 : Int32) (M : PM) (S : qS), Rp O M S → Fm O M0 M → Sim eI O M0 (rec35 l0 l1 l2 l3 M) (grec35 l0 l1 l2 l3 S)) {l0 : Nat} {l1 : Int32} {s0 : Int32} {M : PM} {S : qS} (R : Rp O M S) (H : Fm O M0 M) : Sim eI O M0 (F_XModel_failsWith_124 n rec35 l0 l1 s0 M) (G_XModel_failsWith_124 O n grec35 l0 l1 s0 S) := by
  unfold F_XModel_failsWith_124 G_XModel_failsWith_124
  refine sim_gI (by assumption) (fun _ => ?_)
  refine sim_gI (by assumption) (fun _ => ?_)
  refine sim_gI (by assumption) (fun _ => ?_)
  refine sim_kO (by assumption) ?_
  refine sim_cI (S_XModel_goesOn hO (by assumption) (by assumption)) (fun _ _ _ _ _ => ?_)
  exact hrec35 _ _ _ _ _ _ (by assumption) (by assumption)
def G_XModel_failsWith_123 (O : qOb9) (n : Nat) (rec35 : Nat → Int32 → Int32 → Int32 → qS → Option (Int32 × qS)) (l0 : Nat) (l1 : Int32) (l2 : Int32) (S : qS) : Option (Int32 × qS) :=
  G_XModel_failsWith_124 O n rec35 l0 l1 l2 S
set_option maxHeartbeats 4000000 in
set_option maxRecDepth 100000 in
theorem S_XModel_failsWith_123 {O : qOb9} (hO : okO O) {n : Nat} {M0 : PM} {rec35 : Nat → Int32 → Int32 → Int32 → PM → qO} {grec35 : Nat → Int32 → Int32 → Int32 → qS → Option (Int32 × qS)} (hrec35 : ∀ (l0 : Nat) (l1 : Int32) (l2 : Int32) (l3 : Int32) (M : PM) (S : qS), Rp O M S → Fm O M0 M → Sim eI O M0 (rec35 l0 l1 l2 l3 M) (grec35 l0 l1 l2 l3 S)) {l0 : Nat} {l1 : Int32} {l2 : Int32} {M : PM} {S : qS} (R : Rp O M S) (H : Fm O M0 M) : Sim eI O M0 (F_XModel_failsWith_123 n rec35 l0 l1 l2 M) (G_XModel_failsWith_123 O n grec35 l0 l1 l2 S) := by
  unfold F_XModel_failsWith_123 G_XModel_failsWith_123
  exact S_XModel_failsWith_124 hO hrec35 (by assumption) (by assumption)
def G_XModel_failsWith_118 (O : qOb9) (n : Nat) (rec35 : Nat → Int32 → Int32 → Int32 → qS → Option (Int32 × qS)) (l0 : Nat) (l1 : Int32) (l4 : Int32) (S : qS) : Option (Int32 × qS) :=
  G_XModel_failsWith_124 O n rec35 l0 l1 l4 S
set_option maxHeartbeats 4000000 in
set_option maxRecDepth 100000 in
theorem S_XModel_failsWith_118 {O : qOb9} (hO : okO O) {n : Nat} {M0 : PM} {rec35 : Nat → Int32 → Int32 → Int32 → PM → qO} {grec35 : Nat → Int32 → Int32 → Int32 → qS → Option (Int32 × qS)} (hrec35 : ∀ (l0 : Nat) (l1 : Int32) (l2 : Int32) (l3 : Int32) (M : PM) (S : qS), Rp O M S → Fm O M0 M → Sim eI O M0 (rec35 l0 l1 l2 l3 M) (grec35 l0 l1 l2 l3 S)) {l0 : Nat} {l1 : Int32} {l4 : Int32} {M : PM} {S : qS} (R : Rp O M S) (H : Fm O M0 M) : Sim eI O M0 (F_XModel_failsWith_118 n rec35 l0 l1 l4 M) (G_XModel_failsWith_118 O n grec35 l0 l1 l4 S) := by
  unfold F_XModel_failsWith_118 G_XModel_failsWith_118
  exact S_XModel_failsWith_124 hO hrec35 (by assumption) (by assumption)
def G_XModel_failsWith_101 (O : qOb9) (n : Nat) (rec35 : Nat → Int32 → Int32 → Int32 → qS → Option (Int32 × qS)) (l0 : Nat) (l1 : Int32) (l2 : Int32) (s0 : Int32) (S : qS) : Option (Int32 × qS) :=
  if s0 < (0 : Int32) then
    G_XModel_failsWith_123 O n rec35 l0 l1 l2 S
  else
    if l2 < (0 : Int32) then
      G_XModel_failsWith_118 O n rec35 l0 l1 s0 S
    else
      if l2 ≤ s0 then
        G_XModel_failsWith_123 O n rec35 l0 l1 l2 S
      else
        G_XModel_failsWith_118 O n rec35 l0 l1 s0 S
set_option maxHeartbeats 4000000 in
set_option maxRecDepth 100000 in
theorem S_XModel_failsWith_101 {O : qOb9} (hO : okO O) {n : Nat} {M0 : PM} {rec35 : Nat → Int32 → Int32 → Int32 → PM → qO} {grec35 : Nat → Int32 → Int32 → Int32 → qS → Option (Int32 × qS)} (hrec35 : ∀ (l0 : Nat) (l1 : Int32) (l2 : Int32) (l3 : Int32) (M : PM) (S : qS), Rp O M S → Fm O M0 M → Sim eI O M0 (rec35 l0 l1 l2 l3 M) (grec35 l0 l1 l2 l3 S)) {l0 : Nat} {l1 : Int32} {l2 : Int32} {s0 : Int32} {M : PM} {S : qS} (R : Rp O M S) (H : Fm O M0 M) : Sim eI O M0 (F_XModel_failsWith_101 n rec35 l0 l1 l2 s0 M) (G_XModel_failsWith_101 O n grec35 l0 l1 l2 s0 S) := by
  unfold F_XModel_failsWith_101 G_XModel_failsWith_101
  refine sim_if (fun _ => ?_) (fun _ => ?_)
  exact S_XModel_failsWith_123 hO hrec35 (by assumption) (by assumption)
  refine sim_if (fun _ => ?_) (fun _ => ?_)
  exact S_XModel_failsWith_118 hO hrec35 (by assumption) (by assumption)
  refine sim_if (fun _ => ?_) (fun _ => ?_)
  exact S_XModel_failsWith_123 hO hrec35 (by assumption) (by assumption)
  exact S_XModel_failsWith_118 hO hrec35 (by assumption) (by assumption)
def G_XModel_failsWith_42 (O : qOb9) (n : Nat) (rec35 : Nat → Int32 → Int32 → Int32 → qS → Option (Int32 × qS)) : Nat → Nat → Int32 → Int32 → Int32 → qS → Option (Int32 × qS)
  | 0, _, _, _, _, _ => none
  | f + 1, l0, l1, l2, l4, S =>
    hI 0 O S l0 23 (fun v1 =>
    hI 0 O S l0 24 (fun v2 =>
    if (v1 + v2) ≤ l4 then
      hk 0 O l0 (
      yV (G_XModel_work O n l0 S) (fun S4 =>
      hk 0 O l0 (
      yC (G_XModel_areFunctions O n l0 S4) (fun v6 S5 =>
      if v6 = (0 : Int32) then
        G_XModel_failsWith_101 O n rec35 l0 l1 l2 (-1 : Int32) S5
      else
        hk 0 O l0 (
        yC (G_XModel_failing O n l0 l1 S5) (fun v9 S8 =>
        G_XModel_failsWith_101 O n rec35 l0 l1 l2 v9 S8))))))
    else
      hA 0 O l0 22 (fun v10 =>
      hA 0 O l0 26 (fun v11 =>
      hl 0 O S v11 l4 (fun v12 =>
      hA 0 O l0 27 (fun v13 =>
      hl 0 O S v13 l4 (fun v14 =>
      hw 0 O S v10 v12 v14 (fun S15 =>
      hB (l4 + (1 : Int32)) (fun v16 =>
      (G_XModel_failsWith_42 O n rec35 f) l0 l1 l2 v16 S15)))))))))
set_option maxHeartbeats 4000000 in
set_option maxRecDepth 100000 in
theorem S_XModel_failsWith_42 {O : qOb9} (hO : okO O) {n : Nat} {M0 : PM} {rec35 : Nat → Int32 → Int32 → Int32 → PM → qO} {grec35 : Nat → Int32 → Int32 → Int32 → qS → Option (Int32 × qS)} (hrec35 : ∀ (l0 : Nat) (l1 : Int32) (l2 : Int32) (l3 : Int32) (M : PM) (S : qS), Rp O M S → Fm O M0 M → Sim eI O M0 (rec35 l0 l1 l2 l3 M) (grec35 l0 l1 l2 l3 S)) : ∀ (f : Nat) (l0 : Nat) (l1 : Int32) (l2 : Int32) (l4 : Int32) (M : PM) (S : qS), Rp O M S → Fm O M0 M → Sim eI O M0 (F_XModel_failsWith_42 n rec35 f l0 l1 l2 l4 M) (G_XModel_failsWith_42 O n grec35 f l0 l1 l2 l4 S) := by
  intro f
  induction f with
  | zero => intro l0 l1 l2 l4 M S _ _; rw [G_XModel_failsWith_42]; exact sim_none
  | succ f ih =>
    intro l0 l1 l2 l4 M S R H
    rw [F_XModel_failsWith_42, G_XModel_failsWith_42]
    refine sim_gI (by assumption) (fun _ => ?_)
    refine sim_gI (by assumption) (fun _ => ?_)
    refine sim_if (fun _ => ?_) (fun _ => ?_)
    refine sim_kO (by assumption) ?_
    refine sim_cV (S_XModel_work hO (by assumption) (by assumption)) (fun _ _ _ _ => ?_)
    refine sim_kO (by assumption) ?_
    refine sim_cI (S_XModel_areFunctions hO (by assumption) (by assumption)) (fun _ _ _ _ _ => ?_)
    refine sim_if (fun _ => ?_) (fun _ => ?_)
    exact S_XModel_failsWith_101 hO hrec35 (by assumption) (by assumption)
    refine sim_kO (by assumption) ?_
    refine sim_cI (S_XModel_failing hO (by assumption) (by assumption)) (fun _ _ _ _ _ => ?_)
    exact S_XModel_failsWith_101 hO hrec35 (by assumption) (by assumption)
    refine sim_gA (by assumption) (fun _ => ?_)
    refine sim_gA (by assumption) (fun _ => ?_)
    refine sim_lI (by assumption) (fun _ => ?_)
    refine sim_gA (by assumption) (fun _ => ?_)
    refine sim_lI (by assumption) (fun _ => ?_)
    refine sim_wI hO (by assumption) (by assumption) (fun _ _ _ _ => ?_)
    refine sim_bI (fun _ => ?_)
    exact ih _ _ _ _ _ _ (by assumption) (by assumption)
def G_XModel_failsWith_35 (O : qOb9) (n : Nat) : Nat → Nat → Int32 → Int32 → Int32 → qS → Option (Int32 × qS)
  | 0, _, _, _, _, _ => none
  | f + 1, l0, l1, l2, l3, S =>
    if l3 = (0 : Int32) then
      some (l2, S)
    else
      G_XModel_failsWith_42 O n (G_XModel_failsWith_35 O n f) n l0 l1 l2 (0 : Int32) S
set_option maxHeartbeats 4000000 in
set_option maxRecDepth 100000 in
theorem S_XModel_failsWith_35 {O : qOb9} (hO : okO O) {n : Nat} {M0 : PM} : ∀ (f : Nat) (l0 : Nat) (l1 : Int32) (l2 : Int32) (l3 : Int32) (M : PM) (S : qS), Rp O M S → Fm O M0 M → Sim eI O M0 (F_XModel_failsWith_35 n f l0 l1 l2 l3 M) (G_XModel_failsWith_35 O n f l0 l1 l2 l3 S) := by
  intro f
  induction f with
  | zero => intro l0 l1 l2 l3 M S _ _; rw [G_XModel_failsWith_35]; exact sim_none
  | succ f ih =>
    intro l0 l1 l2 l3 M S R H
    rw [F_XModel_failsWith_35, G_XModel_failsWith_35]
    refine sim_if (fun _ => ?_) (fun _ => ?_)
    exact sim_retI (by assumption) (by assumption)
    exact S_XModel_failsWith_42 hO ih _ _ _ _ _ _ _ (by assumption) (by assumption)
def G_XModel_failsWith_7 (O : qOb9) (n : Nat) : Nat → Nat → Int32 → Int32 → Int32 → qS → Option (Int32 × qS)
  | 0, _, _, _, _, _ => none
  | f + 1, l0, l1, l2, l3, S =>
    hI 0 O S l0 23 (fun v1 =>
    hI 0 O S l0 24 (fun v2 =>
    if (v1 + v2) ≤ l3 then
      G_XModel_failsWith_35 O n n l0 l1 l2 (1 : Int32) S
    else
      hA 0 O l0 27 (fun v4 =>
      hw 0 O S v4 l3 (0 : Int32) (fun S5 =>
      hB (l3 + (1 : Int32)) (fun v6 =>
      (G_XModel_failsWith_7 O n f) l0 l1 l2 v6 S5)))))
set_option maxHeartbeats 4000000 in
set_option maxRecDepth 100000 in
theorem S_XModel_failsWith_7 {O : qOb9} (hO : okO O) {n : Nat} {M0 : PM} : ∀ (f : Nat) (l0 : Nat) (l1 : Int32) (l2 : Int32) (l3 : Int32) (M : PM) (S : qS), Rp O M S → Fm O M0 M → Sim eI O M0 (F_XModel_failsWith_7 n f l0 l1 l2 l3 M) (G_XModel_failsWith_7 O n f l0 l1 l2 l3 S) := by
  intro f
  induction f with
  | zero => intro l0 l1 l2 l3 M S _ _; rw [G_XModel_failsWith_7]; exact sim_none
  | succ f ih =>
    intro l0 l1 l2 l3 M S R H
    rw [F_XModel_failsWith_7, G_XModel_failsWith_7]
    refine sim_gI (by assumption) (fun _ => ?_)
    refine sim_gI (by assumption) (fun _ => ?_)
    refine sim_if (fun _ => ?_) (fun _ => ?_)
    exact S_XModel_failsWith_35 hO _ _ _ _ _ _ _ (by assumption) (by assumption)
    refine sim_gA (by assumption) (fun _ => ?_)
    refine sim_wI hO (by assumption) (by assumption) (fun _ _ _ _ => ?_)
    refine sim_bI (fun _ => ?_)
    exact ih _ _ _ _ _ _ (by assumption) (by assumption)
def G_XModel_failsWith (O : qOb9) (n : Nat) (l0 : Nat) (l1 : Int32) (S : qS) : Option (Int32 × qS) :=
  hI 0 O S l0 23 (fun v1 =>
  G_XModel_failsWith_7 O n n l0 l1 (-1 : Int32) v1 S)
set_option maxHeartbeats 4000000 in
set_option maxRecDepth 100000 in
theorem S_XModel_failsWith {O : qOb9} (hO : okO O) {n : Nat} {M0 : PM} {l0 : Nat} {l1 : Int32} {M : PM} {S : qS} (R : Rp O M S) (H : Fm O M0 M) : Sim eI O M0 (F_XModel_failsWith n l0 l1 M) (G_XModel_failsWith O n l0 l1 S) := by
  unfold F_XModel_failsWith G_XModel_failsWith
  refine sim_gI (by assumption) (fun _ => ?_)
  exact S_XModel_failsWith_7 hO _ _ _ _ _ _ _ (by assumption) (by assumption)
def G_XModel_keepState_41 (O : qOb9) (n : Nat) (rec2 : Nat → Int32 → Int32 → qS → Option (Unit × qS)) (l0 : Nat) (l1 : Int32) (l2 : Int32) (s0 : Nat × Nat) (s1 : Int32) (s2 : Int32) (S : qS) : Option (Unit × qS) :=
  hw 0 O S s0 s1 s2 (fun S1 =>
  hB (l2 + (1 : Int32)) (fun v2 =>
  rec2 l0 l1 v2 S1))
set_option maxHeartbeats 4000000 in
set_option maxRecDepth 100000 in
theorem S_XModel_keepState_41 {O : qOb9} (hO : okO O) {n : Nat} {M0 : PM} {rec2 : Nat → Int32 → Int32 → PM → qO} {grec2 : Nat → Int32 → Int32 → qS → Option (Unit × qS)} (hrec2 : ∀ (l0 : Nat) (l1 : Int32) (l2 : Int32) (M : PM) (S : qS), Rp O M S → Fm O M0 M → Sim eV O M0 (rec2 l0 l1 l2 M) (grec2 l0 l1 l2 S)) {l0 : Nat} {l1 : Int32} {l2 : Int32} {s0 : Nat × Nat} {s1 : Int32} {s2 : Int32} {M : PM} {S : qS} (R : Rp O M S) (H : Fm O M0 M) : Sim eV O M0 (F_XModel_keepState_41 n rec2 l0 l1 l2 (oA O s0.1 s0.2) s1 s2 M) (G_XModel_keepState_41 O n grec2 l0 l1 l2 s0 s1 s2 S) := by
  unfold F_XModel_keepState_41 G_XModel_keepState_41
  refine sim_wI hO (by assumption) (by assumption) (fun _ _ _ _ => ?_)
  refine sim_bI (fun _ => ?_)
  exact hrec2 _ _ _ _ _ (by assumption) (by assumption)
def G_XModel_keepState_106 (O : qOb9) (n : Nat) (l0 : Nat) (l1 : Int32) (s0 : Nat) (s1 : Int32) (S : qS) : Option (Unit × qS) :=
  hP 0 O S s0 33 (s1) (fun S1 =>
  hP 0 O S1 l0 34 (l1) (fun S2 =>
  hI 0 O S2 l0 9 (fun v3 =>
  hP 0 O S2 l0 35 (v3) (fun S4 =>
  hP 0 O S4 l0 31 ((1 : Int32)) (fun S5 =>
  some ((), S5))))))
set_option maxHeartbeats 4000000 in
set_option maxRecDepth 100000 in
theorem S_XModel_keepState_106 {O : qOb9} (hO : okO O) {n : Nat} {M0 : PM} {l0 : Nat} {l1 : Int32} {s0 : Nat} {s1 : Int32} {M : PM} {S : qS} (R : Rp O M S) (H : Fm O M0 M) : Sim eV O M0 (F_XModel_keepState_106 n l0 l1 s0 s1 M) (G_XModel_keepState_106 O n l0 l1 s0 s1 S) := by
  unfold F_XModel_keepState_106 G_XModel_keepState_106
  refine sim_pF (by assumption) (by assumption) (fun _ _ _ _ => ?_)
  refine sim_pF (by assumption) (by assumption) (fun _ _ _ _ => ?_)
  refine sim_gI (by assumption) (fun _ => ?_)
  refine sim_pF (by assumption) (by assumption) (fun _ _ _ _ => ?_)
  refine sim_pF (by assumption) (by assumption) (fun _ _ _ _ => ?_)
  exact sim_retV (by assumption) (by assumption)
def G_XModel_keepState_50 (O : qOb9) (n : Nat) : Nat → Nat → Int32 → Int32 → qS → Option (Unit × qS)
  | 0, _, _, _, _ => none
  | f + 1, l0, l1, l2, S =>
    hI 0 O S l0 23 (fun v1 =>
    if v1 ≤ l2 then
      hA 0 O l0 21 (fun v3 =>
      hl 1 O S v3 (2 : Int32) (fun v4 =>
      if v4 = (0 : Int32) then
        G_XModel_keepState_106 O n l0 l1 l0 (0 : Int32) S
      else
        hA 0 O l0 22 (fun v6 =>
        hl 0 O S v6 (2 : Int32) (fun v7 =>
        G_XModel_keepState_106 O n l0 l1 l0 v7 S))))
    else
      hA 0 O l0 32 (fun v8 =>
      hA 0 O l0 4 (fun v9 =>
      hA 0 O l0 26 (fun v10 =>
      hl 0 O S v10 l2 (fun v11 =>
      hl 0 O S v9 v11 (fun v12 =>
      hA 0 O l0 27 (fun v13 =>
      hl 0 O S v13 l2 (fun v14 =>
      hw 0 O S v8 v12 v14 (fun S15 =>
      hB (l2 + (1 : Int32)) (fun v16 =>
      (G_XModel_keepState_50 O n f) l0 l1 v16 S15))))))))))
set_option maxHeartbeats 4000000 in
set_option maxRecDepth 100000 in
theorem S_XModel_keepState_50 {O : qOb9} (hO : okO O) {n : Nat} {M0 : PM} : ∀ (f : Nat) (l0 : Nat) (l1 : Int32) (l2 : Int32) (M : PM) (S : qS), Rp O M S → Fm O M0 M → Sim eV O M0 (F_XModel_keepState_50 n f l0 l1 l2 M) (G_XModel_keepState_50 O n f l0 l1 l2 S) := by
  intro f
  induction f with
  | zero => intro l0 l1 l2 M S _ _; rw [G_XModel_keepState_50]; exact sim_none
  | succ f ih =>
    intro l0 l1 l2 M S R H
    rw [F_XModel_keepState_50, G_XModel_keepState_50]
    refine sim_gI (by assumption) (fun _ => ?_)
    refine sim_if (fun _ => ?_) (fun _ => ?_)
    refine sim_gA (by assumption) (fun _ => ?_)
    refine sim_lZ (by assumption) (fun _ => ?_)
    refine sim_if (fun _ => ?_) (fun _ => ?_)
    exact S_XModel_keepState_106 hO (by assumption) (by assumption)
    refine sim_gA (by assumption) (fun _ => ?_)
    refine sim_lI (by assumption) (fun _ => ?_)
    exact S_XModel_keepState_106 hO (by assumption) (by assumption)
    refine sim_gA (by assumption) (fun _ => ?_)
    refine sim_gA (by assumption) (fun _ => ?_)
    refine sim_gA (by assumption) (fun _ => ?_)
    refine sim_lI (by assumption) (fun _ => ?_)
    refine sim_lI (by assumption) (fun _ => ?_)
    refine sim_gA (by assumption) (fun _ => ?_)
    refine sim_lI (by assumption) (fun _ => ?_)
    refine sim_wI hO (by assumption) (by assumption) (fun _ _ _ _ => ?_)
    refine sim_bI (fun _ => ?_)
    exact ih _ _ _ _ _ (by assumption) (by assumption)
def G_XModel_keepState_2 (O : qOb9) (n : Nat) : Nat → Nat → Int32 → Int32 → qS → Option (Unit × qS)
  | 0, _, _, _, _ => none
  | f + 1, l0, l1, l2, S =>
    hI 0 O S l0 9 (fun v1 =>
    if v1 ≤ l2 then
      G_XModel_keepState_50 O n n l0 l1 (0 : Int32) S
    else
      hA 0 O l0 11 (fun v3 =>
      hl 0 O S v3 l2 (fun v4 =>
      hA 0 O l0 32 (fun v5 =>
      hA 0 O l0 21 (fun v6 =>
      hl 1 O S v6 v4 (fun v7 =>
      if v7 = (0 : Int32) then
        G_XModel_keepState_41 O n (G_XModel_keepState_2 O n f) l0 l1 l2 v5 l2 (0 : Int32) S
      else
        hA 0 O l0 22 (fun v9 =>
        hl 0 O S v9 v4 (fun v10 =>
        G_XModel_keepState_41 O n (G_XModel_keepState_2 O n f) l0 l1 l2 v5 l2 v10 S))))))))
set_option maxHeartbeats 4000000 in
set_option maxRecDepth 100000 in
theorem S_XModel_keepState_2 {O : qOb9} (hO : okO O) {n : Nat} {M0 : PM} : ∀ (f : Nat) (l0 : Nat) (l1 : Int32) (l2 : Int32) (M : PM) (S : qS), Rp O M S → Fm O M0 M → Sim eV O M0 (F_XModel_keepState_2 n f l0 l1 l2 M) (G_XModel_keepState_2 O n f l0 l1 l2 S) := by
  intro f
  induction f with
  | zero => intro l0 l1 l2 M S _ _; rw [G_XModel_keepState_2]; exact sim_none
  | succ f ih =>
    intro l0 l1 l2 M S R H
    rw [F_XModel_keepState_2, G_XModel_keepState_2]
    refine sim_gI (by assumption) (fun _ => ?_)
    refine sim_if (fun _ => ?_) (fun _ => ?_)
    exact S_XModel_keepState_50 hO _ _ _ _ _ _ (by assumption) (by assumption)
    refine sim_gA (by assumption) (fun _ => ?_)
    refine sim_lI (by assumption) (fun _ => ?_)
    refine sim_gA (by assumption) (fun _ => ?_)
    refine sim_gA (by assumption) (fun _ => ?_)
    refine sim_lZ (by assumption) (fun _ => ?_)
    refine sim_if (fun _ => ?_) (fun _ => ?_)
    exact S_XModel_keepState_41 hO ih (by assumption) (by assumption)
    refine sim_gA (by assumption) (fun _ => ?_)
    refine sim_lI (by assumption) (fun _ => ?_)
    exact S_XModel_keepState_41 hO ih (by assumption) (by assumption)
def G_XModel_keepState (O : qOb9) (n : Nat) (l0 : Nat) (l1 : Int32) (S : qS) : Option (Unit × qS) :=
  G_XModel_keepState_2 O n n l0 l1 (0 : Int32) S
set_option maxHeartbeats 4000000 in
set_option maxRecDepth 100000 in
theorem S_XModel_keepState {O : qOb9} (hO : okO O) {n : Nat} {M0 : PM} {l0 : Nat} {l1 : Int32} {M : PM} {S : qS} (R : Rp O M S) (H : Fm O M0 M) : Sim eV O M0 (F_XModel_keepState n l0 l1 M) (G_XModel_keepState O n l0 l1 S) := by
  unfold F_XModel_keepState G_XModel_keepState
  exact S_XModel_keepState_2 hO _ _ _ _ _ _ (by assumption) (by assumption)
def G_XModel_ask_27 (O : qOb9) (n : Nat) (S : qS) : Option (Int32 × qS) :=
  some ((2 : Int32), S)
set_option maxHeartbeats 4000000 in
set_option maxRecDepth 100000 in
theorem S_XModel_ask_27 {O : qOb9} (hO : okO O) {n : Nat} {M0 : PM} {M : PM} {S : qS} (R : Rp O M S) (H : Fm O M0 M) : Sim eI O M0 (F_XModel_ask_27 n M) (G_XModel_ask_27 O n S) := by
  unfold F_XModel_ask_27 G_XModel_ask_27
  exact sim_retI (by assumption) (by assumption)
def G_XModel_ask_105 (O : qOb9) (n : Nat) (rec31 : Nat → Int32 → Int32 → qS → Option (Int32 × qS)) : Nat → Nat → Int32 → Int32 → Int32 → qS → Option (Int32 × qS)
  | 0, _, _, _, _, _ => none
  | f + 1, l0, l1, l2, l3, S =>
    if l3 = (0 : Int32) then
      hB (l2 + (1 : Int32)) (fun v2 =>
      rec31 l0 l1 v2 S)
    else
      hk 0 O l0 (
      yC (G_XModel_failsWith O n l0 l1 S) (fun v4 S3 =>
      if v4 < (0 : Int32) then
        hI 0 O S3 l0 23 (fun v6 =>
        hk 0 O l0 (
        yC (G_XModel_goesOn O n l0 (0 : Int32) v6 S3) (fun v8 S7 =>
        (G_XModel_ask_105 O n rec31 f) l0 l1 l2 v8 S7)))
      else
        hk 0 O l0 (
        yV (G_XModel_keepState O n l0 v4 S3) (fun S9 =>
        some ((0 : Int32), S9)))))
set_option maxHeartbeats 4000000 in
set_option maxRecDepth 100000 in
theorem S_XModel_ask_105 {O : qOb9} (hO : okO O) {n : Nat} {M0 : PM} {rec31 : Nat → Int32 → Int32 → PM → qO} {grec31 : Nat → Int32 → Int32 → qS → Option (Int32 × qS)} (hrec31 : ∀ (l0 : Nat) (l1 : Int32) (l2 : Int32) (M : PM) (S : qS), Rp O M S → Fm O M0 M → Sim eI O M0 (rec31 l0 l1 l2 M) (grec31 l0 l1 l2 S)) : ∀ (f : Nat) (l0 : Nat) (l1 : Int32) (l2 : Int32) (l3 : Int32) (M : PM) (S : qS), Rp O M S → Fm O M0 M → Sim eI O M0 (F_XModel_ask_105 n rec31 f l0 l1 l2 l3 M) (G_XModel_ask_105 O n grec31 f l0 l1 l2 l3 S) := by
  intro f
  induction f with
  | zero => intro l0 l1 l2 l3 M S _ _; rw [G_XModel_ask_105]; exact sim_none
  | succ f ih =>
    intro l0 l1 l2 l3 M S R H
    rw [F_XModel_ask_105, G_XModel_ask_105]
    refine sim_if (fun _ => ?_) (fun _ => ?_)
    refine sim_bI (fun _ => ?_)
    exact hrec31 _ _ _ _ _ (by assumption) (by assumption)
    refine sim_kO (by assumption) ?_
    refine sim_cI (S_XModel_failsWith hO (by assumption) (by assumption)) (fun _ _ _ _ _ => ?_)
    refine sim_if (fun _ => ?_) (fun _ => ?_)
    refine sim_gI (by assumption) (fun _ => ?_)
    refine sim_kO (by assumption) ?_
    refine sim_cI (S_XModel_goesOn hO (by assumption) (by assumption)) (fun _ _ _ _ _ => ?_)
    exact ih _ _ _ _ _ _ (by assumption) (by assumption)
    refine sim_kO (by assumption) ?_
    refine sim_cV (S_XModel_keepState hO (by assumption) (by assumption)) (fun _ _ _ _ => ?_)
    exact sim_retI (by assumption) (by assumption)
def G_XModel_ask_82 (O : qOb9) (n : Nat) (rec31 : Nat → Int32 → Int32 → qS → Option (Int32 × qS)) : Nat → Nat → Int32 → Int32 → Int32 → qS → Option (Int32 × qS)
  | 0, _, _, _, _, _ => none
  | f + 1, l0, l1, l2, l3, S =>
    hI 0 O S l0 23 (fun v1 =>
    if v1 ≤ l3 then
      G_XModel_ask_105 O n rec31 n l0 l1 l2 (1 : Int32) S
    else
      hA 0 O l0 27 (fun v3 =>
      hw 0 O S v3 l3 (0 : Int32) (fun S4 =>
      hB (l3 + (1 : Int32)) (fun v5 =>
      (G_XModel_ask_82 O n rec31 f) l0 l1 l2 v5 S4))))
set_option maxHeartbeats 4000000 in
set_option maxRecDepth 100000 in
theorem S_XModel_ask_82 {O : qOb9} (hO : okO O) {n : Nat} {M0 : PM} {rec31 : Nat → Int32 → Int32 → PM → qO} {grec31 : Nat → Int32 → Int32 → qS → Option (Int32 × qS)} (hrec31 : ∀ (l0 : Nat) (l1 : Int32) (l2 : Int32) (M : PM) (S : qS), Rp O M S → Fm O M0 M → Sim eI O M0 (rec31 l0 l1 l2 M) (grec31 l0 l1 l2 S)) : ∀ (f : Nat) (l0 : Nat) (l1 : Int32) (l2 : Int32) (l3 : Int32) (M : PM) (S : qS), Rp O M S → Fm O M0 M → Sim eI O M0 (F_XModel_ask_82 n rec31 f l0 l1 l2 l3 M) (G_XModel_ask_82 O n grec31 f l0 l1 l2 l3 S) := by
  intro f
  induction f with
  | zero => intro l0 l1 l2 l3 M S _ _; rw [G_XModel_ask_82]; exact sim_none
  | succ f ih =>
    intro l0 l1 l2 l3 M S R H
    rw [F_XModel_ask_82, G_XModel_ask_82]
    refine sim_gI (by assumption) (fun _ => ?_)
    refine sim_if (fun _ => ?_) (fun _ => ?_)
    exact S_XModel_ask_105 hO hrec31 _ _ _ _ _ _ _ (by assumption) (by assumption)
    refine sim_gA (by assumption) (fun _ => ?_)
    refine sim_wI hO (by assumption) (by assumption) (fun _ _ _ _ => ?_)
    refine sim_bI (fun _ => ?_)
    exact ih _ _ _ _ _ _ (by assumption) (by assumption)
def G_XModel_ask_43 (O : qOb9) (n : Nat) (rec31 : Nat → Int32 → Int32 → qS → Option (Int32 × qS)) : Nat → Nat → Int32 → Int32 → Int32 → qS → Option (Int32 × qS)
  | 0, _, _, _, _, _ => none
  | f + 1, l0, l1, l2, l3, S =>
    hI 0 O S l0 25 (fun v1 =>
    if v1 ≤ l3 then
      G_XModel_ask_82 O n rec31 n l0 l1 l2 (0 : Int32) S
    else
      hA 0 O l0 22 (fun v3 =>
      hA 0 O l0 28 (fun v4 =>
      hl 0 O S v4 l3 (fun v5 =>
      hI 0 O S l0 25 (fun v6 =>
      hw 0 O S v3 v5 ((l2 >>> (((v6 - (1 : Int32)) - l3) &&& 31)) &&& (1 : Int32)) (fun S7 =>
      hB (l3 + (1 : Int32)) (fun v8 =>
      (G_XModel_ask_43 O n rec31 f) l0 l1 l2 v8 S7)))))))
set_option maxHeartbeats 4000000 in
set_option maxRecDepth 100000 in
theorem S_XModel_ask_43 {O : qOb9} (hO : okO O) {n : Nat} {M0 : PM} {rec31 : Nat → Int32 → Int32 → PM → qO} {grec31 : Nat → Int32 → Int32 → qS → Option (Int32 × qS)} (hrec31 : ∀ (l0 : Nat) (l1 : Int32) (l2 : Int32) (M : PM) (S : qS), Rp O M S → Fm O M0 M → Sim eI O M0 (rec31 l0 l1 l2 M) (grec31 l0 l1 l2 S)) : ∀ (f : Nat) (l0 : Nat) (l1 : Int32) (l2 : Int32) (l3 : Int32) (M : PM) (S : qS), Rp O M S → Fm O M0 M → Sim eI O M0 (F_XModel_ask_43 n rec31 f l0 l1 l2 l3 M) (G_XModel_ask_43 O n grec31 f l0 l1 l2 l3 S) := by
  intro f
  induction f with
  | zero => intro l0 l1 l2 l3 M S _ _; rw [G_XModel_ask_43]; exact sim_none
  | succ f ih =>
    intro l0 l1 l2 l3 M S R H
    rw [F_XModel_ask_43, G_XModel_ask_43]
    refine sim_gI (by assumption) (fun _ => ?_)
    refine sim_if (fun _ => ?_) (fun _ => ?_)
    exact S_XModel_ask_82 hO hrec31 _ _ _ _ _ _ _ (by assumption) (by assumption)
    refine sim_gA (by assumption) (fun _ => ?_)
    refine sim_gA (by assumption) (fun _ => ?_)
    refine sim_lI (by assumption) (fun _ => ?_)
    refine sim_gI (by assumption) (fun _ => ?_)
    refine sim_wI hO (by assumption) (by assumption) (fun _ _ _ _ => ?_)
    refine sim_bI (fun _ => ?_)
    exact ih _ _ _ _ _ _ (by assumption) (by assumption)
def G_XModel_ask_31 (O : qOb9) (n : Nat) : Nat → Nat → Int32 → Int32 → qS → Option (Int32 × qS)
  | 0, _, _, _, _ => none
  | f + 1, l0, l1, l2, S =>
    hI 0 O S l0 25 (fun v1 =>
    if ((1 : Int32) <<< (v1 &&& 31)) ≤ l2 then
      some ((1 : Int32), S)
    else
      G_XModel_ask_43 O n (G_XModel_ask_31 O n f) n l0 l1 l2 (0 : Int32) S)
set_option maxHeartbeats 4000000 in
set_option maxRecDepth 100000 in
theorem S_XModel_ask_31 {O : qOb9} (hO : okO O) {n : Nat} {M0 : PM} : ∀ (f : Nat) (l0 : Nat) (l1 : Int32) (l2 : Int32) (M : PM) (S : qS), Rp O M S → Fm O M0 M → Sim eI O M0 (F_XModel_ask_31 n f l0 l1 l2 M) (G_XModel_ask_31 O n f l0 l1 l2 S) := by
  intro f
  induction f with
  | zero => intro l0 l1 l2 M S _ _; rw [G_XModel_ask_31]; exact sim_none
  | succ f ih =>
    intro l0 l1 l2 M S R H
    rw [F_XModel_ask_31, G_XModel_ask_31]
    refine sim_gI (by assumption) (fun _ => ?_)
    refine sim_if (fun _ => ?_) (fun _ => ?_)
    exact sim_retI (by assumption) (by assumption)
    exact S_XModel_ask_43 hO ih _ _ _ _ _ _ _ (by assumption) (by assumption)
def G_XModel_ask (O : qOb9) (n : Nat) (l0 : Nat) (l1 : Int32) (S : qS) : Option (Int32 × qS) :=
  hk 0 O l0 (
  yV (G_XModel_gather O n l0 S) (fun S1 =>
  hP 0 O S1 l0 31 ((0 : Int32)) (fun S2 =>
  hI 0 O S2 l0 29 (fun v3 =>
  if (7 : Int32) < v3 then
    G_XModel_ask_27 O n S2
  else
    hI 0 O S2 l0 30 (fun v5 =>
    if v5 ≤ (6 : Int32) then
      G_XModel_ask_31 O n n l0 l1 (0 : Int32) S2
    else
      G_XModel_ask_27 O n S2)))))
set_option maxHeartbeats 4000000 in
set_option maxRecDepth 100000 in
theorem S_XModel_ask {O : qOb9} (hO : okO O) {n : Nat} {M0 : PM} {l0 : Nat} {l1 : Int32} {M : PM} {S : qS} (R : Rp O M S) (H : Fm O M0 M) : Sim eI O M0 (F_XModel_ask n l0 l1 M) (G_XModel_ask O n l0 l1 S) := by
  unfold F_XModel_ask G_XModel_ask
  refine sim_kO (by assumption) ?_
  refine sim_cV (S_XModel_gather hO (by assumption) (by assumption)) (fun _ _ _ _ => ?_)
  refine sim_pF (by assumption) (by assumption) (fun _ _ _ _ => ?_)
  refine sim_gI (by assumption) (fun _ => ?_)
  refine sim_if (fun _ => ?_) (fun _ => ?_)
  exact S_XModel_ask_27 hO (by assumption) (by assumption)
  refine sim_gI (by assumption) (fun _ => ?_)
  refine sim_if (fun _ => ?_) (fun _ => ?_)
  exact S_XModel_ask_31 hO _ _ _ _ _ _ (by assumption) (by assumption)
  exact S_XModel_ask_27 hO (by assumption) (by assumption)
def G_XModel_run_167 (O : qOb9) (n : Nat) (rec113 : Nat → Int32 → qS → Option (Int32 × qS)) (l0 : Nat) (l2 : Int32) (S : qS) : Option (Int32 × qS) :=
  hB (l2 + (1 : Int32)) (fun v1 =>
  rec113 l0 v1 S)
set_option maxHeartbeats 4000000 in
set_option maxRecDepth 100000 in
theorem S_XModel_run_167 {O : qOb9} (hO : okO O) {n : Nat} {M0 : PM} {rec113 : Nat → Int32 → PM → qO} {grec113 : Nat → Int32 → qS → Option (Int32 × qS)} (hrec113 : ∀ (l0 : Nat) (l2 : Int32) (M : PM) (S : qS), Rp O M S → Fm O M0 M → Sim eI O M0 (rec113 l0 l2 M) (grec113 l0 l2 S)) {l0 : Nat} {l2 : Int32} {M : PM} {S : qS} (R : Rp O M S) (H : Fm O M0 M) : Sim eI O M0 (F_XModel_run_167 n rec113 l0 l2 M) (G_XModel_run_167 O n grec113 l0 l2 S) := by
  unfold F_XModel_run_167 G_XModel_run_167
  refine sim_bI (fun _ => ?_)
  exact hrec113 _ _ _ _ (by assumption) (by assumption)
def G_XModel_run_175 (O : qOb9) (n : Nat) : Nat → Nat → Int32 → qS → Option (Int32 × qS)
  | 0, _, _, _ => none
  | f + 1, l0, l2, S =>
    hI 0 O S l0 10 (fun v1 =>
    if v1 ≤ l2 then
      hk 0 O l0 (
      yC (G_XModel_ask O n l0 (-1 : Int32) S) (fun v4 S3 =>
      hP 0 O S3 l0 33 ((1 : Int32)) (fun S5 =>
      some (v4, S5))))
    else
      hA 0 O l0 16 (fun v6 =>
      hl 0 O S v6 l2 (fun v7 =>
      hk 0 O l0 (
      yV (G_XModel_mark O n l0 v7 S) (fun S8 =>
      hB (l2 + (1 : Int32)) (fun v9 =>
      (G_XModel_run_175 O n f) l0 v9 S8))))))
set_option maxHeartbeats 4000000 in
set_option maxRecDepth 100000 in
theorem S_XModel_run_175 {O : qOb9} (hO : okO O) {n : Nat} {M0 : PM} : ∀ (f : Nat) (l0 : Nat) (l2 : Int32) (M : PM) (S : qS), Rp O M S → Fm O M0 M → Sim eI O M0 (F_XModel_run_175 n f l0 l2 M) (G_XModel_run_175 O n f l0 l2 S) := by
  intro f
  induction f with
  | zero => intro l0 l2 M S _ _; rw [G_XModel_run_175]; exact sim_none
  | succ f ih =>
    intro l0 l2 M S R H
    rw [F_XModel_run_175, G_XModel_run_175]
    refine sim_gI (by assumption) (fun _ => ?_)
    refine sim_if (fun _ => ?_) (fun _ => ?_)
    refine sim_kO (by assumption) ?_
    refine sim_cI (S_XModel_ask hO (by assumption) (by assumption)) (fun _ _ _ _ _ => ?_)
    refine sim_pF (by assumption) (by assumption) (fun _ _ _ _ => ?_)
    exact sim_retI (by assumption) (by assumption)
    refine sim_gA (by assumption) (fun _ => ?_)
    refine sim_lI (by assumption) (fun _ => ?_)
    refine sim_kO (by assumption) ?_
    refine sim_cV (S_XModel_mark hO (by assumption) (by assumption)) (fun _ _ _ _ => ?_)
    refine sim_bI (fun _ => ?_)
    exact ih _ _ _ _ (by assumption) (by assumption)
def G_XModel_run_113 (O : qOb9) (n : Nat) : Nat → Nat → Int32 → qS → Option (Int32 × qS)
  | 0, _, _, _ => none
  | f + 1, l0, l2, S =>
    hI 0 O S l0 9 (fun v1 =>
    if v1 ≤ l2 then
      G_XModel_run_175 O n n l0 (0 : Int32) S
    else
      hA 0 O l0 15 (fun v3 =>
      hl 1 O S v3 l2 (fun v4 =>
      if v4 = (0 : Int32) then
        G_XModel_run_167 O n (G_XModel_run_113 O n f) l0 l2 S
      else
        hA 0 O l0 20 (fun v6 =>
        hA 0 O l0 17 (fun v7 =>
        hA 0 O l0 14 (fun v8 =>
        hl 0 O S v8 l2 (fun v9 =>
        hl 0 O S v7 v9 (fun v10 =>
        hw 0 O S v6 l2 v10 (fun S11 =>
        hA 0 O l0 19 (fun v12 =>
        hl 0 O S11 v12 l2 (fun v13 =>
        hk 0 O l0 (
        yV (G_XModel_mark O n l0 v13 S11) (fun S14 =>
        hA 0 O l0 20 (fun v15 =>
        hl 0 O S14 v15 l2 (fun v16 =>
        hk 0 O l0 (
        yV (G_XModel_mark O n l0 v16 S14) (fun S17 =>
        G_XModel_run_167 O n (G_XModel_run_113 O n f) l0 l2 S17)))))))))))))))))
set_option maxHeartbeats 4000000 in
set_option maxRecDepth 100000 in
theorem S_XModel_run_113 {O : qOb9} (hO : okO O) {n : Nat} {M0 : PM} : ∀ (f : Nat) (l0 : Nat) (l2 : Int32) (M : PM) (S : qS), Rp O M S → Fm O M0 M → Sim eI O M0 (F_XModel_run_113 n f l0 l2 M) (G_XModel_run_113 O n f l0 l2 S) := by
  intro f
  induction f with
  | zero => intro l0 l2 M S _ _; rw [G_XModel_run_113]; exact sim_none
  | succ f ih =>
    intro l0 l2 M S R H
    rw [F_XModel_run_113, G_XModel_run_113]
    refine sim_gI (by assumption) (fun _ => ?_)
    refine sim_if (fun _ => ?_) (fun _ => ?_)
    exact S_XModel_run_175 hO _ _ _ _ _ (by assumption) (by assumption)
    refine sim_gA (by assumption) (fun _ => ?_)
    refine sim_lZ (by assumption) (fun _ => ?_)
    refine sim_if (fun _ => ?_) (fun _ => ?_)
    exact S_XModel_run_167 hO ih (by assumption) (by assumption)
    refine sim_gA (by assumption) (fun _ => ?_)
    refine sim_gA (by assumption) (fun _ => ?_)
    refine sim_gA (by assumption) (fun _ => ?_)
    refine sim_lI (by assumption) (fun _ => ?_)
    refine sim_lI (by assumption) (fun _ => ?_)
    refine sim_wI hO (by assumption) (by assumption) (fun _ _ _ _ => ?_)
    refine sim_gA (by assumption) (fun _ => ?_)
    refine sim_lI (by assumption) (fun _ => ?_)
    refine sim_kO (by assumption) ?_
    refine sim_cV (S_XModel_mark hO (by assumption) (by assumption)) (fun _ _ _ _ => ?_)
    refine sim_gA (by assumption) (fun _ => ?_)
    refine sim_lI (by assumption) (fun _ => ?_)
    refine sim_kO (by assumption) ?_
    refine sim_cV (S_XModel_mark hO (by assumption) (by assumption)) (fun _ _ _ _ => ?_)
    exact S_XModel_run_167 hO ih (by assumption) (by assumption)
def G_XModel_run_86 (O : qOb9) (n : Nat) : Nat → Nat → Int32 → Int32 → qS → Option (Int32 × qS)
  | 0, _, _, _, _ => none
  | f + 1, l0, l1, l2, S =>
    if l1 ≤ l2 then
      hk 0 O l0 (
      yV (G_XModel_putIn O n l0 (2 : Int32) S) (fun S2 =>
      hk 0 O l0 (
      yV (G_XModel_unmark O n l0 S2) (fun S3 =>
      G_XModel_run_113 O n n l0 (0 : Int32) S3))))
    else
      hk 0 O l0 (
      yV (G_XModel_step O n l0 (0 : Int32) S) (fun S4 =>
      hB (l2 + (1 : Int32)) (fun v5 =>
      (G_XModel_run_86 O n f) l0 l1 v5 S4)))
set_option maxHeartbeats 4000000 in
set_option maxRecDepth 100000 in
theorem S_XModel_run_86 {O : qOb9} (hO : okO O) {n : Nat} {M0 : PM} : ∀ (f : Nat) (l0 : Nat) (l1 : Int32) (l2 : Int32) (M : PM) (S : qS), Rp O M S → Fm O M0 M → Sim eI O M0 (F_XModel_run_86 n f l0 l1 l2 M) (G_XModel_run_86 O n f l0 l1 l2 S) := by
  intro f
  induction f with
  | zero => intro l0 l1 l2 M S _ _; rw [G_XModel_run_86]; exact sim_none
  | succ f ih =>
    intro l0 l1 l2 M S R H
    rw [F_XModel_run_86, G_XModel_run_86]
    refine sim_if (fun _ => ?_) (fun _ => ?_)
    refine sim_kO (by assumption) ?_
    refine sim_cV (S_XModel_putIn hO (by assumption) (by assumption)) (fun _ _ _ _ => ?_)
    refine sim_kO (by assumption) ?_
    refine sim_cV (S_XModel_unmark hO (by assumption) (by assumption)) (fun _ _ _ _ => ?_)
    exact S_XModel_run_113 hO _ _ _ _ _ (by assumption) (by assumption)
    refine sim_kO (by assumption) ?_
    refine sim_cV (S_XModel_step hO (by assumption) (by assumption)) (fun _ _ _ _ => ?_)
    refine sim_bI (fun _ => ?_)
    exact ih _ _ _ _ _ (by assumption) (by assumption)
def G_XModel_run_54 (O : qOb9) (n : Nat) : Nat → Nat → Int32 → Int32 → qS → Option (Int32 × qS)
  | 0, _, _, _, _ => none
  | f + 1, l0, l1, l2, S =>
    hI 0 O S l0 9 (fun v1 =>
    if v1 ≤ l2 then
      hk 0 O l0 (
      yV (G_XModel_beginState O n l0 S) (fun S3 =>
      G_XModel_run_86 O n n l0 l1 (0 : Int32) S3))
    else
      hA 0 O l0 19 (fun v4 =>
      hA 0 O l0 18 (fun v5 =>
      hl 0 O S v5 l2 (fun v6 =>
      hw 0 O S v4 l2 v6 (fun S7 =>
      hB (l2 + (1 : Int32)) (fun v8 =>
      (G_XModel_run_54 O n f) l0 l1 v8 S7))))))
set_option maxHeartbeats 4000000 in
set_option maxRecDepth 100000 in
theorem S_XModel_run_54 {O : qOb9} (hO : okO O) {n : Nat} {M0 : PM} : ∀ (f : Nat) (l0 : Nat) (l1 : Int32) (l2 : Int32) (M : PM) (S : qS), Rp O M S → Fm O M0 M → Sim eI O M0 (F_XModel_run_54 n f l0 l1 l2 M) (G_XModel_run_54 O n f l0 l1 l2 S) := by
  intro f
  induction f with
  | zero => intro l0 l1 l2 M S _ _; rw [G_XModel_run_54]; exact sim_none
  | succ f ih =>
    intro l0 l1 l2 M S R H
    rw [F_XModel_run_54, G_XModel_run_54]
    refine sim_gI (by assumption) (fun _ => ?_)
    refine sim_if (fun _ => ?_) (fun _ => ?_)
    refine sim_kO (by assumption) ?_
    refine sim_cV (S_XModel_beginState hO (by assumption) (by assumption)) (fun _ _ _ _ => ?_)
    exact S_XModel_run_86 hO _ _ _ _ _ _ (by assumption) (by assumption)
    refine sim_gA (by assumption) (fun _ => ?_)
    refine sim_gA (by assumption) (fun _ => ?_)
    refine sim_lI (by assumption) (fun _ => ?_)
    refine sim_wI hO (by assumption) (by assumption) (fun _ _ _ _ => ?_)
    refine sim_bI (fun _ => ?_)
    exact ih _ _ _ _ _ (by assumption) (by assumption)
def G_XModel_run_36 (O : qOb9) (n : Nat) : Nat → Nat → Int32 → Int32 → qS → Option (Int32 × qS)
  | 0, _, _, _, _ => none
  | f + 1, l0, l1, l2, S =>
    if l1 ≤ l2 then
      G_XModel_run_54 O n n l0 l1 (0 : Int32) S
    else
      hk 0 O l0 (
      yV (G_XModel_step O n l0 (0 : Int32) S) (fun S2 =>
      hB (l2 + (1 : Int32)) (fun v3 =>
      (G_XModel_run_36 O n f) l0 l1 v3 S2)))
set_option maxHeartbeats 4000000 in
set_option maxRecDepth 100000 in
theorem S_XModel_run_36 {O : qOb9} (hO : okO O) {n : Nat} {M0 : PM} : ∀ (f : Nat) (l0 : Nat) (l1 : Int32) (l2 : Int32) (M : PM) (S : qS), Rp O M S → Fm O M0 M → Sim eI O M0 (F_XModel_run_36 n f l0 l1 l2 M) (G_XModel_run_36 O n f l0 l1 l2 S) := by
  intro f
  induction f with
  | zero => intro l0 l1 l2 M S _ _; rw [G_XModel_run_36]; exact sim_none
  | succ f ih =>
    intro l0 l1 l2 M S R H
    rw [F_XModel_run_36, G_XModel_run_36]
    refine sim_if (fun _ => ?_) (fun _ => ?_)
    exact S_XModel_run_54 hO _ _ _ _ _ _ (by assumption) (by assumption)
    refine sim_kO (by assumption) ?_
    refine sim_cV (S_XModel_step hO (by assumption) (by assumption)) (fun _ _ _ _ => ?_)
    refine sim_bI (fun _ => ?_)
    exact ih _ _ _ _ _ (by assumption) (by assumption)
def G_XModel_run (O : qOb9) (n : Nat) (l0 : Nat) (l1 : Int32) (S : qS) : Option (Int32 × qS) :=
  hP 0 O S l0 0 ((0 : Int32)) (fun S1 =>
  yC (G_XModel_within O n l1 (0 : Int32) (8 : Int32) S1) (fun v3 S2 =>
  if v3 = (0 : Int32) then
    hk 0 O l0 (
    yC (G_XModel_fail O n l0 (1 : Int32) S2) (fun v9 S8 =>
    some (v9, S8)))
  else
    hk 0 O l0 (
    yV (G_XModel_begin O n l0 S2) (fun S5 =>
    hk 0 O l0 (
    yV (G_XModel_beginState O n l0 S5) (fun S6 =>
    hk 0 O l0 (
    yV (G_XModel_step O n l0 (1 : Int32) S6) (fun S7 =>
    G_XModel_run_36 O n n l0 l1 (0 : Int32) S7))))))))
set_option maxHeartbeats 4000000 in
set_option maxRecDepth 100000 in
theorem S_XModel_run {O : qOb9} (hO : okO O) {n : Nat} {M0 : PM} {l0 : Nat} {l1 : Int32} {M : PM} {S : qS} (R : Rp O M S) (H : Fm O M0 M) : Sim eI O M0 (F_XModel_run n l0 l1 M) (G_XModel_run O n l0 l1 S) := by
  unfold F_XModel_run G_XModel_run
  refine sim_pF (by assumption) (by assumption) (fun _ _ _ _ => ?_)
  refine sim_cI (S_XModel_within hO (by assumption) (by assumption)) (fun _ _ _ _ _ => ?_)
  refine sim_if (fun _ => ?_) (fun _ => ?_)
  refine sim_kO (by assumption) ?_
  refine sim_cI (S_XModel_fail hO (by assumption) (by assumption)) (fun _ _ _ _ _ => ?_)
  exact sim_retI (by assumption) (by assumption)
  refine sim_kO (by assumption) ?_
  refine sim_cV (S_XModel_begin hO (by assumption) (by assumption)) (fun _ _ _ _ => ?_)
  refine sim_kO (by assumption) ?_
  refine sim_cV (S_XModel_beginState hO (by assumption) (by assumption)) (fun _ _ _ _ => ?_)
  refine sim_kO (by assumption) ?_
  refine sim_cV (S_XModel_step hO (by assumption) (by assumption)) (fun _ _ _ _ => ?_)
  exact S_XModel_run_36 hO _ _ _ _ _ _ (by assumption) (by assumption)
def G_XModel_kept_66 (O : qOb9) (n : Nat) : Nat → Nat → Int32 → Int32 → qS → Option (Int32 × qS)
  | 0, _, _, _, _ => none
  | f + 1, l0, l2, l3, S =>
    hI 0 O S l0 10 (fun v1 =>
    if v1 ≤ l3 then
      hk 0 O l0 (
      yC (G_XModel_ask O n l0 l2 S) (fun v4 S3 =>
      hP 0 O S3 l0 34 ((-1 : Int32)) (fun S5 =>
      some (v4, S5))))
    else
      hA 0 O l0 16 (fun v6 =>
      hl 0 O S v6 l3 (fun v7 =>
      hk 0 O l0 (
      yV (G_XModel_mark O n l0 v7 S) (fun S8 =>
      hB (l3 + (1 : Int32)) (fun v9 =>
      (G_XModel_kept_66 O n f) l0 l2 v9 S8))))))
set_option maxHeartbeats 4000000 in
set_option maxRecDepth 100000 in
theorem S_XModel_kept_66 {O : qOb9} (hO : okO O) {n : Nat} {M0 : PM} : ∀ (f : Nat) (l0 : Nat) (l2 : Int32) (l3 : Int32) (M : PM) (S : qS), Rp O M S → Fm O M0 M → Sim eI O M0 (F_XModel_kept_66 n f l0 l2 l3 M) (G_XModel_kept_66 O n f l0 l2 l3 S) := by
  intro f
  induction f with
  | zero => intro l0 l2 l3 M S _ _; rw [G_XModel_kept_66]; exact sim_none
  | succ f ih =>
    intro l0 l2 l3 M S R H
    rw [F_XModel_kept_66, G_XModel_kept_66]
    refine sim_gI (by assumption) (fun _ => ?_)
    refine sim_if (fun _ => ?_) (fun _ => ?_)
    refine sim_kO (by assumption) ?_
    refine sim_cI (S_XModel_ask hO (by assumption) (by assumption)) (fun _ _ _ _ _ => ?_)
    refine sim_pF (by assumption) (by assumption) (fun _ _ _ _ => ?_)
    exact sim_retI (by assumption) (by assumption)
    refine sim_gA (by assumption) (fun _ => ?_)
    refine sim_lI (by assumption) (fun _ => ?_)
    refine sim_kO (by assumption) ?_
    refine sim_cV (S_XModel_mark hO (by assumption) (by assumption)) (fun _ _ _ _ => ?_)
    refine sim_bI (fun _ => ?_)
    exact ih _ _ _ _ _ (by assumption) (by assumption)
def G_XModel_kept (O : qOb9) (n : Nat) (l0 : Nat) (l1 : Int32) (S : qS) : Option (Int32 × qS) :=
  hP 0 O S l0 0 ((0 : Int32)) (fun S1 =>
  hI 0 O S1 l0 10 (fun v2 =>
  yC (G_XModel_within O n l1 (0 : Int32) (v2 - (1 : Int32)) S1) (fun v4 S3 =>
  if v4 = (0 : Int32) then
    hk 0 O l0 (
    yC (G_XModel_fail O n l0 (1 : Int32) S3) (fun v17 S16 =>
    some (v17, S16)))
  else
    hk 0 O l0 (
    yV (G_XModel_begin O n l0 S3) (fun S6 =>
    hk 0 O l0 (
    yV (G_XModel_beginState O n l0 S6) (fun S7 =>
    hk 0 O l0 (
    yV (G_XModel_step O n l0 (2 : Int32) S7) (fun S8 =>
    hk 0 O l0 (
    yV (G_XModel_putIn O n l0 (2 : Int32) S8) (fun S9 =>
    hA 0 O l0 17 (fun v10 =>
    hA 0 O l0 16 (fun v11 =>
    hl 0 O S9 v11 l1 (fun v12 =>
    hl 0 O S9 v10 v12 (fun v13 =>
    hk 0 O l0 (
    yV (G_XModel_unmark O n l0 S9) (fun S14 =>
    hk 0 O l0 (
    yV (G_XModel_mark O n l0 v13 S14) (fun S15 =>
    G_XModel_kept_66 O n n l0 v13 (0 : Int32) S15)))))))))))))))))))
set_option maxHeartbeats 4000000 in
set_option maxRecDepth 100000 in
theorem S_XModel_kept {O : qOb9} (hO : okO O) {n : Nat} {M0 : PM} {l0 : Nat} {l1 : Int32} {M : PM} {S : qS} (R : Rp O M S) (H : Fm O M0 M) : Sim eI O M0 (F_XModel_kept n l0 l1 M) (G_XModel_kept O n l0 l1 S) := by
  unfold F_XModel_kept G_XModel_kept
  refine sim_pF (by assumption) (by assumption) (fun _ _ _ _ => ?_)
  refine sim_gI (by assumption) (fun _ => ?_)
  refine sim_cI (S_XModel_within hO (by assumption) (by assumption)) (fun _ _ _ _ _ => ?_)
  refine sim_if (fun _ => ?_) (fun _ => ?_)
  refine sim_kO (by assumption) ?_
  refine sim_cI (S_XModel_fail hO (by assumption) (by assumption)) (fun _ _ _ _ _ => ?_)
  exact sim_retI (by assumption) (by assumption)
  refine sim_kO (by assumption) ?_
  refine sim_cV (S_XModel_begin hO (by assumption) (by assumption)) (fun _ _ _ _ => ?_)
  refine sim_kO (by assumption) ?_
  refine sim_cV (S_XModel_beginState hO (by assumption) (by assumption)) (fun _ _ _ _ => ?_)
  refine sim_kO (by assumption) ?_
  refine sim_cV (S_XModel_step hO (by assumption) (by assumption)) (fun _ _ _ _ => ?_)
  refine sim_kO (by assumption) ?_
  refine sim_cV (S_XModel_putIn hO (by assumption) (by assumption)) (fun _ _ _ _ => ?_)
  refine sim_gA (by assumption) (fun _ => ?_)
  refine sim_gA (by assumption) (fun _ => ?_)
  refine sim_lI (by assumption) (fun _ => ?_)
  refine sim_lI (by assumption) (fun _ => ?_)
  refine sim_kO (by assumption) ?_
  refine sim_cV (S_XModel_unmark hO (by assumption) (by assumption)) (fun _ _ _ _ => ?_)
  refine sim_kO (by assumption) ?_
  refine sim_cV (S_XModel_mark hO (by assumption) (by assumption)) (fun _ _ _ _ => ?_)
  exact S_XModel_kept_66 hO _ _ _ _ _ _ (by assumption) (by assumption)
def G_XModel_witness_56 (O : qOb9) (n : Nat) (s0 : Int32) (S : qS) : Option (Int32 × qS) :=
  some (s0, S)
set_option maxHeartbeats 4000000 in
set_option maxRecDepth 100000 in
theorem S_XModel_witness_56 {O : qOb9} (hO : okO O) {n : Nat} {M0 : PM} {s0 : Int32} {M : PM} {S : qS} (R : Rp O M S) (H : Fm O M0 M) : Sim eI O M0 (F_XModel_witness_56 n s0 M) (G_XModel_witness_56 O n s0 S) := by
  unfold F_XModel_witness_56 G_XModel_witness_56
  exact sim_retI (by assumption) (by assumption)
def G_XModel_witness (O : qOb9) (n : Nat) (l0 : Nat) (l1 : Int32) (S : qS) : Option (Int32 × qS) :=
  hP 0 O S l0 0 ((0 : Int32)) (fun S1 =>
  hI 0 O S1 l0 31 (fun v2 =>
  if v2 = (0 : Int32) then
    hk 0 O l0 (
    yC (G_XModel_fail O n l0 (1 : Int32) S1) (fun v15 S14 =>
    some (v15, S14)))
  else
    if l1 = (-1 : Int32) then
      hI 0 O S1 l0 33 (fun v13 =>
      some (v13, S1))
    else
      hI 0 O S1 l0 35 (fun v5 =>
      yC (G_XModel_within O n l1 (0 : Int32) (v5 - (1 : Int32)) S1) (fun v7 S6 =>
      if v7 = (0 : Int32) then
        hk 0 O l0 (
        yC (G_XModel_fail O n l0 (2 : Int32) S6) (fun v10 S9 =>
        G_XModel_witness_56 O n v10 S9))
      else
        hA 0 O l0 32 (fun v11 =>
        hl 0 O S6 v11 l1 (fun v12 =>
        G_XModel_witness_56 O n v12 S6))))))
set_option maxHeartbeats 4000000 in
set_option maxRecDepth 100000 in
theorem S_XModel_witness {O : qOb9} (hO : okO O) {n : Nat} {M0 : PM} {l0 : Nat} {l1 : Int32} {M : PM} {S : qS} (R : Rp O M S) (H : Fm O M0 M) : Sim eI O M0 (F_XModel_witness n l0 l1 M) (G_XModel_witness O n l0 l1 S) := by
  unfold F_XModel_witness G_XModel_witness
  refine sim_pF (by assumption) (by assumption) (fun _ _ _ _ => ?_)
  refine sim_gI (by assumption) (fun _ => ?_)
  refine sim_if (fun _ => ?_) (fun _ => ?_)
  refine sim_kO (by assumption) ?_
  refine sim_cI (S_XModel_fail hO (by assumption) (by assumption)) (fun _ _ _ _ _ => ?_)
  exact sim_retI (by assumption) (by assumption)
  refine sim_if (fun _ => ?_) (fun _ => ?_)
  refine sim_gI (by assumption) (fun _ => ?_)
  exact sim_retI (by assumption) (by assumption)
  refine sim_gI (by assumption) (fun _ => ?_)
  refine sim_cI (S_XModel_within hO (by assumption) (by assumption)) (fun _ _ _ _ _ => ?_)
  refine sim_if (fun _ => ?_) (fun _ => ?_)
  refine sim_kO (by assumption) ?_
  refine sim_cI (S_XModel_fail hO (by assumption) (by assumption)) (fun _ _ _ _ _ => ?_)
  exact S_XModel_witness_56 hO (by assumption) (by assumption)
  refine sim_gA (by assumption) (fun _ => ?_)
  refine sim_lI (by assumption) (fun _ => ?_)
  exact S_XModel_witness_56 hO (by assumption) (by assumption)
def G_XModel_differs_24 (O : qOb9) (n : Nat) (s0 : Int32) (S : qS) : Option (Int32 × qS) :=
  some (s0, S)
set_option maxHeartbeats 4000000 in
set_option maxRecDepth 100000 in
theorem S_XModel_differs_24 {O : qOb9} (hO : okO O) {n : Nat} {M0 : PM} {s0 : Int32} {M : PM} {S : qS} (R : Rp O M S) (H : Fm O M0 M) : Sim eI O M0 (F_XModel_differs_24 n s0 M) (G_XModel_differs_24 O n s0 S) := by
  unfold F_XModel_differs_24 G_XModel_differs_24
  exact sim_retI (by assumption) (by assumption)
def G_XModel_differs (O : qOb9) (n : Nat) (l0 : Nat) (S : qS) : Option (Int32 × qS) :=
  hP 0 O S l0 0 ((0 : Int32)) (fun S1 =>
  hI 0 O S1 l0 31 (fun v2 =>
  if v2 = (0 : Int32) then
    hk 0 O l0 (
    yC (G_XModel_fail O n l0 (1 : Int32) S1) (fun v5 S4 =>
    G_XModel_differs_24 O n v5 S4))
  else
    hI 0 O S1 l0 34 (fun v6 =>
    G_XModel_differs_24 O n v6 S1)))
set_option maxHeartbeats 4000000 in
set_option maxRecDepth 100000 in
theorem S_XModel_differs {O : qOb9} (hO : okO O) {n : Nat} {M0 : PM} {l0 : Nat} {M : PM} {S : qS} (R : Rp O M S) (H : Fm O M0 M) : Sim eI O M0 (F_XModel_differs n l0 M) (G_XModel_differs O n l0 S) := by
  unfold F_XModel_differs G_XModel_differs
  refine sim_pF (by assumption) (by assumption) (fun _ _ _ _ => ?_)
  refine sim_gI (by assumption) (fun _ => ?_)
  refine sim_if (fun _ => ?_) (fun _ => ?_)
  refine sim_kO (by assumption) ?_
  refine sim_cI (S_XModel_fail hO (by assumption) (by assumption)) (fun _ _ _ _ _ => ?_)
  exact S_XModel_differs_24 hO (by assumption) (by assumption)
  refine sim_gI (by assumption) (fun _ => ?_)
  exact S_XModel_differs_24 hO (by assumption) (by assumption)
def G_XModel_node_22 (O : qOb9) (n : Nat) (l0 : Nat) (S : qS) : Option (Int32 × qS) :=
  hk 0 O l0 (
  yC (G_XModel_fail O n l0 (1 : Int32) S) (fun v2 S1 =>
  some (v2, S1)))
set_option maxHeartbeats 4000000 in
set_option maxRecDepth 100000 in
theorem S_XModel_node_22 {O : qOb9} (hO : okO O) {n : Nat} {M0 : PM} {l0 : Nat} {M : PM} {S : qS} (R : Rp O M S) (H : Fm O M0 M) : Sim eI O M0 (F_XModel_node_22 n l0 M) (G_XModel_node_22 O n l0 S) := by
  unfold F_XModel_node_22 G_XModel_node_22
  refine sim_kO (by assumption) ?_
  refine sim_cI (S_XModel_fail hO (by assumption) (by assumption)) (fun _ _ _ _ _ => ?_)
  exact sim_retI (by assumption) (by assumption)
def G_XModel_node_75 (O : qOb9) (n : Nat) (s0 : Int32) (S : qS) : Option (Int32 × qS) :=
  some (s0, S)
set_option maxHeartbeats 4000000 in
set_option maxRecDepth 100000 in
theorem S_XModel_node_75 {O : qOb9} (hO : okO O) {n : Nat} {M0 : PM} {s0 : Int32} {M : PM} {S : qS} (R : Rp O M S) (H : Fm O M0 M) : Sim eI O M0 (F_XModel_node_75 n s0 M) (G_XModel_node_75 O n s0 S) := by
  unfold F_XModel_node_75 G_XModel_node_75
  exact sim_retI (by assumption) (by assumption)
def G_XModel_node (O : qOb9) (n : Nat) (l0 : Nat) (l1 : Int32) (l2 : Int32) (S : qS) : Option (Int32 × qS) :=
  hP 0 O S l0 0 ((0 : Int32)) (fun S1 =>
  hk 0 O l0 (
  yC (G_XModel_isNode O n l0 l1 S1) (fun v3 S2 =>
  if v3 = (0 : Int32) then
    G_XModel_node_22 O n l0 S2
  else
    yC (G_XModel_within O n l2 (0 : Int32) (3 : Int32) S2) (fun v6 S5 =>
    if v6 = (0 : Int32) then
      G_XModel_node_22 O n l0 S5
    else
      if l2 = (0 : Int32) then
        hA 0 O l0 3 (fun v17 =>
        hl 0 O S5 v17 l1 (fun v18 =>
        G_XModel_node_75 O n v18 S5))
      else
        if l2 = (1 : Int32) then
          hA 0 O l0 4 (fun v15 =>
          hl 0 O S5 v15 l1 (fun v16 =>
          G_XModel_node_75 O n v16 S5))
        else
          if l2 = (2 : Int32) then
            hA 0 O l0 5 (fun v13 =>
            hl 0 O S5 v13 l1 (fun v14 =>
            G_XModel_node_75 O n v14 S5))
          else
            hA 0 O l0 6 (fun v11 =>
            hl 0 O S5 v11 l1 (fun v12 =>
            G_XModel_node_75 O n v12 S5))))))
set_option maxHeartbeats 4000000 in
set_option maxRecDepth 100000 in
theorem S_XModel_node {O : qOb9} (hO : okO O) {n : Nat} {M0 : PM} {l0 : Nat} {l1 : Int32} {l2 : Int32} {M : PM} {S : qS} (R : Rp O M S) (H : Fm O M0 M) : Sim eI O M0 (F_XModel_node n l0 l1 l2 M) (G_XModel_node O n l0 l1 l2 S) := by
  unfold F_XModel_node G_XModel_node
  refine sim_pF (by assumption) (by assumption) (fun _ _ _ _ => ?_)
  refine sim_kO (by assumption) ?_
  refine sim_cI (S_XModel_isNode hO (by assumption) (by assumption)) (fun _ _ _ _ _ => ?_)
  refine sim_if (fun _ => ?_) (fun _ => ?_)
  exact S_XModel_node_22 hO (by assumption) (by assumption)
  refine sim_cI (S_XModel_within hO (by assumption) (by assumption)) (fun _ _ _ _ _ => ?_)
  refine sim_if (fun _ => ?_) (fun _ => ?_)
  exact S_XModel_node_22 hO (by assumption) (by assumption)
  refine sim_if (fun _ => ?_) (fun _ => ?_)
  refine sim_gA (by assumption) (fun _ => ?_)
  refine sim_lI (by assumption) (fun _ => ?_)
  exact S_XModel_node_75 hO (by assumption) (by assumption)
  refine sim_if (fun _ => ?_) (fun _ => ?_)
  refine sim_gA (by assumption) (fun _ => ?_)
  refine sim_lI (by assumption) (fun _ => ?_)
  exact S_XModel_node_75 hO (by assumption) (by assumption)
  refine sim_if (fun _ => ?_) (fun _ => ?_)
  refine sim_gA (by assumption) (fun _ => ?_)
  refine sim_lI (by assumption) (fun _ => ?_)
  exact S_XModel_node_75 hO (by assumption) (by assumption)
  refine sim_gA (by assumption) (fun _ => ?_)
  refine sim_lI (by assumption) (fun _ => ?_)
  exact S_XModel_node_75 hO (by assumption) (by assumption)
def G_XModel_count_83 (O : qOb9) (n : Nat) (rec60 : Nat → Int32 → Int32 → qS → Option (Int32 × qS)) (l0 : Nat) (l3 : Int32) (s0 : Int32) (s1 : Int32) (S : qS) : Option (Int32 × qS) :=
  hB (s0 + s1) (fun v1 =>
  hB (l3 + (1 : Int32)) (fun v2 =>
  rec60 l0 v1 v2 S))
set_option maxHeartbeats 4000000 in
set_option maxRecDepth 100000 in
theorem S_XModel_count_83 {O : qOb9} (hO : okO O) {n : Nat} {M0 : PM} {rec60 : Nat → Int32 → Int32 → PM → qO} {grec60 : Nat → Int32 → Int32 → qS → Option (Int32 × qS)} (hrec60 : ∀ (l0 : Nat) (l2 : Int32) (l3 : Int32) (M : PM) (S : qS), Rp O M S → Fm O M0 M → Sim eI O M0 (rec60 l0 l2 l3 M) (grec60 l0 l2 l3 S)) {l0 : Nat} {l3 : Int32} {s0 : Int32} {s1 : Int32} {M : PM} {S : qS} (R : Rp O M S) (H : Fm O M0 M) : Sim eI O M0 (F_XModel_count_83 n rec60 l0 l3 s0 s1 M) (G_XModel_count_83 O n grec60 l0 l3 s0 s1 S) := by
  unfold F_XModel_count_83 G_XModel_count_83
  refine sim_bI (fun _ => ?_)
  refine sim_bI (fun _ => ?_)
  exact hrec60 _ _ _ _ _ (by assumption) (by assumption)
def G_XModel_count_60 (O : qOb9) (n : Nat) : Nat → Nat → Int32 → Int32 → qS → Option (Int32 × qS)
  | 0, _, _, _, _ => none
  | f + 1, l0, l2, l3, S =>
    hI 0 O S l0 9 (fun v1 =>
    if v1 ≤ l3 then
      some (l2, S)
    else
      hA 0 O l0 15 (fun v3 =>
      hl 1 O S v3 l3 (fun v4 =>
      if v4 = (0 : Int32) then
        G_XModel_count_83 O n (G_XModel_count_60 O n f) l0 l3 l2 (0 : Int32) S
      else
        G_XModel_count_83 O n (G_XModel_count_60 O n f) l0 l3 l2 (1 : Int32) S)))
set_option maxHeartbeats 4000000 in
set_option maxRecDepth 100000 in
theorem S_XModel_count_60 {O : qOb9} (hO : okO O) {n : Nat} {M0 : PM} : ∀ (f : Nat) (l0 : Nat) (l2 : Int32) (l3 : Int32) (M : PM) (S : qS), Rp O M S → Fm O M0 M → Sim eI O M0 (F_XModel_count_60 n f l0 l2 l3 M) (G_XModel_count_60 O n f l0 l2 l3 S) := by
  intro f
  induction f with
  | zero => intro l0 l2 l3 M S _ _; rw [G_XModel_count_60]; exact sim_none
  | succ f ih =>
    intro l0 l2 l3 M S R H
    rw [F_XModel_count_60, G_XModel_count_60]
    refine sim_gI (by assumption) (fun _ => ?_)
    refine sim_if (fun _ => ?_) (fun _ => ?_)
    exact sim_retI (by assumption) (by assumption)
    refine sim_gA (by assumption) (fun _ => ?_)
    refine sim_lZ (by assumption) (fun _ => ?_)
    refine sim_if (fun _ => ?_) (fun _ => ?_)
    exact S_XModel_count_83 hO ih (by assumption) (by assumption)
    exact S_XModel_count_83 hO ih (by assumption) (by assumption)
def G_XModel_count (O : qOb9) (n : Nat) (l0 : Nat) (l1 : Int32) (S : qS) : Option (Int32 × qS) :=
  hP 0 O S l0 0 ((0 : Int32)) (fun S1 =>
  if l1 = (0 : Int32) then
    hI 0 O S1 l0 1 (fun v3 =>
    some (v3, S1))
  else
  if l1 = (1 : Int32) then
    hI 0 O S1 l0 9 (fun v5 =>
    some (v5, S1))
  else
  if l1 = (2 : Int32) then
    G_XModel_count_60 O n n l0 (0 : Int32) (0 : Int32) S1
  else
  if l1 = (3 : Int32) then
    hI 0 O S1 l0 10 (fun v8 =>
    some (v8, S1))
  else
  if l1 = (4 : Int32) then
    hI 0 O S1 l0 29 (fun v10 =>
    some (v10, S1))
  else
  if l1 = (5 : Int32) then
    hI 0 O S1 l0 30 (fun v12 =>
    some (v12, S1))
  else
    some ((-1 : Int32), S1))
set_option maxHeartbeats 4000000 in
set_option maxRecDepth 100000 in
theorem S_XModel_count {O : qOb9} (hO : okO O) {n : Nat} {M0 : PM} {l0 : Nat} {l1 : Int32} {M : PM} {S : qS} (R : Rp O M S) (H : Fm O M0 M) : Sim eI O M0 (F_XModel_count n l0 l1 M) (G_XModel_count O n l0 l1 S) := by
  unfold F_XModel_count G_XModel_count
  refine sim_pF (by assumption) (by assumption) (fun _ _ _ _ => ?_)
  refine sim_if (fun _ => ?_) (fun _ => ?_)
  refine sim_gI (by assumption) (fun _ => ?_)
  exact sim_retI (by assumption) (by assumption)
  refine sim_if (fun _ => ?_) (fun _ => ?_)
  refine sim_gI (by assumption) (fun _ => ?_)
  exact sim_retI (by assumption) (by assumption)
  refine sim_if (fun _ => ?_) (fun _ => ?_)
  exact S_XModel_count_60 hO _ _ _ _ _ _ (by assumption) (by assumption)
  refine sim_if (fun _ => ?_) (fun _ => ?_)
  refine sim_gI (by assumption) (fun _ => ?_)
  exact sim_retI (by assumption) (by assumption)
  refine sim_if (fun _ => ?_) (fun _ => ?_)
  refine sim_gI (by assumption) (fun _ => ?_)
  exact sim_retI (by assumption) (by assumption)
  refine sim_if (fun _ => ?_) (fun _ => ?_)
  refine sim_gI (by assumption) (fun _ => ?_)
  exact sim_retI (by assumption) (by assumption)
  exact sim_retI (by assumption) (by assumption)
