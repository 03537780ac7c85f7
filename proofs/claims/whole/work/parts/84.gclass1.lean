def G_XProver_begin_45 (O : qOb9) (n : Nat) (rec16 : Nat → Nat → Int32 → qS → Option (Unit × qS)) (l0 : Nat) (l1 : Nat) (l2 : Int32) (s0 : Int32) (S : qS) : Option (Unit × qS) :=
  hA 6 O l0 5 (fun v1 =>
  hO 6 O l0 0 (fun v2 =>
  hk 3 O v2 (
  yC (G_XNodes_makeElement O n v2 s0 l2 S) (fun v4 S3 =>
  hw 0 O S3 v1 l2 v4 (fun S5 =>
  hA 6 O l0 6 (fun v6 =>
  hA 6 O l0 5 (fun v7 =>
  hl 0 O S5 v7 l2 (fun v8 =>
  hw 0 O S5 v6 l2 v8 (fun S9 =>
  hB (l2 + (1 : Int32)) (fun v10 =>
  rec16 l0 l1 v10 S9))))))))))
set_option maxHeartbeats 4000000 in
set_option maxRecDepth 100000 in
theorem S_XProver_begin_45 {O : qOb9} (hO : okO O) {n : Nat} {M0 : PM} {rec16 : Nat → Nat → Int32 → PM → qO} {grec16 : Nat → Nat → Int32 → qS → Option (Unit × qS)} (hrec16 : ∀ (l0 : Nat) (l1 : Nat) (l2 : Int32) (M : PM) (S : qS), Rp O M S → Fm O M0 M → Sim eV O M0 (rec16 l0 l1 l2 M) (grec16 l0 l1 l2 S)) {l0 : Nat} {l1 : Nat} {l2 : Int32} {s0 : Int32} {M : PM} {S : qS} (R : Rp O M S) (H : Fm O M0 M) : Sim eV O M0 (F_XProver_begin_45 n rec16 l0 l1 l2 s0 M) (G_XProver_begin_45 O n grec16 l0 l1 l2 s0 S) := by
  unfold F_XProver_begin_45 G_XProver_begin_45
  refine sim_gA (by assumption) (fun _ => ?_)
  refine sim_gO (by assumption) (fun _ => ?_)
  refine sim_kO (by assumption) ?_
  refine sim_cI (S_XNodes_makeElement hO (by assumption) (by assumption)) (fun _ _ _ _ _ => ?_)
  refine sim_wI hO (by assumption) (by assumption) (fun _ _ _ _ => ?_)
  refine sim_gA (by assumption) (fun _ => ?_)
  refine sim_gA (by assumption) (fun _ => ?_)
  refine sim_lI (by assumption) (fun _ => ?_)
  refine sim_wI hO (by assumption) (by assumption) (fun _ _ _ _ => ?_)
  refine sim_bI (fun _ => ?_)
  exact hrec16 _ _ _ _ _ (by assumption) (by assumption)
def G_XProver_begin_106 (O : qOb9) (n : Nat) : Nat → Nat → Nat → Int32 → qS → Option (Unit × qS)
  | 0, _, _, _, _ => none
  | f + 1, l0, l1, l2, S =>
    hI 2 O S l1 8 (fun v1 =>
    if v1 ≤ l2 then
      some ((), S)
    else
      hO 6 O l0 1 (fun v3 =>
      hA 6 O l0 4 (fun v4 =>
      hA 2 O l1 4 (fun v5 =>
      hl 0 O S v5 l2 (fun v6 =>
      hl 0 O S v4 v6 (fun v7 =>
      hk 7 O v3 (
      yV (G_XQuestion_addInvariant O n v3 v7 S) (fun S8 =>
      hB (l2 + (1 : Int32)) (fun v9 =>
      (G_XProver_begin_106 O n f) l0 l1 v9 S8)))))))))
set_option maxHeartbeats 4000000 in
set_option maxRecDepth 100000 in
theorem S_XProver_begin_106 {O : qOb9} (hO : okO O) {n : Nat} {M0 : PM} : ∀ (f : Nat) (l0 : Nat) (l1 : Nat) (l2 : Int32) (M : PM) (S : qS), Rp O M S → Fm O M0 M → Sim eV O M0 (F_XProver_begin_106 n f l0 l1 l2 M) (G_XProver_begin_106 O n f l0 l1 l2 S) := by
  intro f
  induction f with
  | zero => intro l0 l1 l2 M S _ _; rw [G_XProver_begin_106]; exact sim_none
  | succ f ih =>
    intro l0 l1 l2 M S R H
    rw [F_XProver_begin_106, G_XProver_begin_106]
    refine sim_gI (by assumption) (fun _ => ?_)
    refine sim_if (fun _ => ?_) (fun _ => ?_)
    exact sim_retV (by assumption) (by assumption)
    refine sim_gO (by assumption) (fun _ => ?_)
    refine sim_gA (by assumption) (fun _ => ?_)
    refine sim_gA (by assumption) (fun _ => ?_)
    refine sim_lI (by assumption) (fun _ => ?_)
    refine sim_lI (by assumption) (fun _ => ?_)
    refine sim_kO (by assumption) ?_
    refine sim_cV (S_XQuestion_addInvariant hO (by assumption) (by assumption)) (fun _ _ _ _ => ?_)
    refine sim_bI (fun _ => ?_)
    exact ih _ _ _ _ _ (by assumption) (by assumption)
def G_XProver_begin_16 (O : qOb9) (n : Nat) : Nat → Nat → Nat → Int32 → qS → Option (Unit × qS)
  | 0, _, _, _, _ => none
  | f + 1, l0, l1, l2, S =>
    hI 2 O S l1 6 (fun v1 =>
    if v1 ≤ l2 then
      hA 6 O l0 5 (fun v3 =>
      hk 6 O l0 (
      yV (G_XProver_putIn O n l0 l1 v3 (2 : Int32) S) (fun S4 =>
      hO 6 O l0 0 (fun v5 =>
      hO 2 O l1 0 (fun v6 =>
      hA 6 O l0 4 (fun v7 =>
      hk 3 O v5 (
      yV (G_XNodes_remakeAll O n v5 v6 v7 S4) (fun S8 =>
      G_XProver_begin_106 O n n l0 l1 (0 : Int32) S8))))))))
    else
      hO 2 O l1 0 (fun v9 =>
      hA 2 O l1 1 (fun v10 =>
      hl 0 O S v10 l2 (fun v11 =>
      hk 3 O v9 (
      yC (G_XNodes_isWord O n v9 v11 S) (fun v13 S12 =>
      if v13 = (0 : Int32) then
        G_XProver_begin_45 O n (G_XProver_begin_16 O n f) l0 l1 l2 (4 : Int32) S12
      else
        G_XProver_begin_45 O n (G_XProver_begin_16 O n f) l0 l1 l2 (3 : Int32) S12))))))
set_option maxHeartbeats 4000000 in
set_option maxRecDepth 100000 in
theorem S_XProver_begin_16 {O : qOb9} (hO : okO O) {n : Nat} {M0 : PM} : ∀ (f : Nat) (l0 : Nat) (l1 : Nat) (l2 : Int32) (M : PM) (S : qS), Rp O M S → Fm O M0 M → Sim eV O M0 (F_XProver_begin_16 n f l0 l1 l2 M) (G_XProver_begin_16 O n f l0 l1 l2 S) := by
  intro f
  induction f with
  | zero => intro l0 l1 l2 M S _ _; rw [G_XProver_begin_16]; exact sim_none
  | succ f ih =>
    intro l0 l1 l2 M S R H
    rw [F_XProver_begin_16, G_XProver_begin_16]
    refine sim_gI (by assumption) (fun _ => ?_)
    refine sim_if (fun _ => ?_) (fun _ => ?_)
    refine sim_gA (by assumption) (fun _ => ?_)
    refine sim_kO (by assumption) ?_
    refine sim_cV (S_XProver_putIn hO (by assumption) (by assumption)) (fun _ _ _ _ => ?_)
    refine sim_gO (by assumption) (fun _ => ?_)
    refine sim_gO (by assumption) (fun _ => ?_)
    refine sim_gA (by assumption) (fun _ => ?_)
    refine sim_kO (by assumption) ?_
    refine sim_cV (S_XNodes_remakeAll hO (by assumption) (by assumption)) (fun _ _ _ _ => ?_)
    exact S_XProver_begin_106 hO _ _ _ _ _ _ (by assumption) (by assumption)
    refine sim_gO (by assumption) (fun _ => ?_)
    refine sim_gA (by assumption) (fun _ => ?_)
    refine sim_lI (by assumption) (fun _ => ?_)
    refine sim_kO (by assumption) ?_
    refine sim_cI (S_XNodes_isWord hO (by assumption) (by assumption)) (fun _ _ _ _ _ => ?_)
    refine sim_if (fun _ => ?_) (fun _ => ?_)
    exact S_XProver_begin_45 hO ih (by assumption) (by assumption)
    exact S_XProver_begin_45 hO ih (by assumption) (by assumption)
def G_XProver_begin (O : qOb9) (n : Nat) (l0 : Nat) (l1 : Nat) (S : qS) : Option (Unit × qS) :=
  hO 6 O l0 0 (fun v1 =>
  hk 3 O v1 (
  yV (G_XNodes_reset O n v1 S) (fun S2 =>
  hO 6 O l0 1 (fun v3 =>
  hk 7 O v3 (
  yV (G_XQuestion_begin O n v3 S2) (fun S4 =>
  G_XProver_begin_16 O n n l0 l1 (0 : Int32) S4))))))
set_option maxHeartbeats 4000000 in
set_option maxRecDepth 100000 in
theorem S_XProver_begin {O : qOb9} (hO : okO O) {n : Nat} {M0 : PM} {l0 : Nat} {l1 : Nat} {M : PM} {S : qS} (R : Rp O M S) (H : Fm O M0 M) : Sim eV O M0 (F_XProver_begin n l0 l1 M) (G_XProver_begin O n l0 l1 S) := by
  unfold F_XProver_begin G_XProver_begin
  refine sim_gO (by assumption) (fun _ => ?_)
  refine sim_kO (by assumption) ?_
  refine sim_cV (S_XNodes_reset hO (by assumption) (by assumption)) (fun _ _ _ _ => ?_)
  refine sim_gO (by assumption) (fun _ => ?_)
  refine sim_kO (by assumption) ?_
  refine sim_cV (S_XQuestion_begin hO (by assumption) (by assumption)) (fun _ _ _ _ => ?_)
  exact S_XProver_begin_16 hO _ _ _ _ _ _ (by assumption) (by assumption)
def G_XProver_takeImages_33 (O : qOb9) (n : Nat) (rec3 : Nat → Nat → (Nat × Nat) → (Nat × Nat) → Int32 → qS → Option (Unit × qS)) (l0 : Nat) (l1 : Nat) (l2 : Nat × Nat) (l3 : Nat × Nat) (l4 : Int32) (S : qS) : Option (Unit × qS) :=
  hB (l4 + (1 : Int32)) (fun v1 =>
  rec3 l0 l1 l2 l3 v1 S)
set_option maxHeartbeats 4000000 in
set_option maxRecDepth 100000 in
theorem S_XProver_takeImages_33 {O : qOb9} (hO : okO O) {n : Nat} {M0 : PM} {rec3 : Nat → Nat → Nat → Nat → Int32 → PM → qO} {grec3 : Nat → Nat → (Nat × Nat) → (Nat × Nat) → Int32 → qS → Option (Unit × qS)} (hrec3 : ∀ (l0 : Nat) (l1 : Nat) (l2 : Nat × Nat) (l3 : Nat × Nat) (l4 : Int32) (M : PM) (S : qS), Rp O M S → Fm O M0 M → Sim eV O M0 (rec3 l0 l1 (oA O l2.1 l2.2) (oA O l3.1 l3.2) l4 M) (grec3 l0 l1 l2 l3 l4 S)) {l0 : Nat} {l1 : Nat} {l2 : Nat × Nat} {l3 : Nat × Nat} {l4 : Int32} {M : PM} {S : qS} (R : Rp O M S) (H : Fm O M0 M) : Sim eV O M0 (F_XProver_takeImages_33 n rec3 l0 l1 (oA O l2.1 l2.2) (oA O l3.1 l3.2) l4 M) (G_XProver_takeImages_33 O n grec3 l0 l1 l2 l3 l4 S) := by
  unfold F_XProver_takeImages_33 G_XProver_takeImages_33
  refine sim_bI (fun _ => ?_)
  exact hrec3 _ _ _ _ _ _ _ (by assumption) (by assumption)
def G_XProver_takeImages_3 (O : qOb9) (n : Nat) : Nat → Nat → Nat → (Nat × Nat) → (Nat × Nat) → Int32 → qS → Option (Unit × qS)
  | 0, _, _, _, _, _, _ => none
  | f + 1, l0, l1, l2, l3, l4, S =>
    hI 2 O S l1 6 (fun v1 =>
    if v1 ≤ l4 then
      some ((), S)
    else
      hl 0 O S l2 l4 (fun v3 =>
      if v3 = (-1 : Int32) then
        G_XProver_takeImages_33 O n (G_XProver_takeImages_3 O n f) l0 l1 l2 l3 l4 S
      else
        hA 6 O l0 4 (fun v5 =>
        hl 0 O S l2 l4 (fun v6 =>
        hl 0 O S v5 v6 (fun v7 =>
        hw 0 O S l3 l4 v7 (fun S8 =>
        G_XProver_takeImages_33 O n (G_XProver_takeImages_3 O n f) l0 l1 l2 l3 l4 S8))))))
set_option maxHeartbeats 4000000 in
set_option maxRecDepth 100000 in
theorem S_XProver_takeImages_3 {O : qOb9} (hO : okO O) {n : Nat} {M0 : PM} : ∀ (f : Nat) (l0 : Nat) (l1 : Nat) (l2 : Nat × Nat) (l3 : Nat × Nat) (l4 : Int32) (M : PM) (S : qS), Rp O M S → Fm O M0 M → Sim eV O M0 (F_XProver_takeImages_3 n f l0 l1 (oA O l2.1 l2.2) (oA O l3.1 l3.2) l4 M) (G_XProver_takeImages_3 O n f l0 l1 l2 l3 l4 S) := by
  intro f
  induction f with
  | zero => intro l0 l1 l2 l3 l4 M S _ _; rw [G_XProver_takeImages_3]; exact sim_none
  | succ f ih =>
    intro l0 l1 l2 l3 l4 M S R H
    rw [F_XProver_takeImages_3, G_XProver_takeImages_3]
    refine sim_gI (by assumption) (fun _ => ?_)
    refine sim_if (fun _ => ?_) (fun _ => ?_)
    exact sim_retV (by assumption) (by assumption)
    refine sim_lI (by assumption) (fun _ => ?_)
    refine sim_if (fun _ => ?_) (fun _ => ?_)
    exact S_XProver_takeImages_33 hO ih (by assumption) (by assumption)
    refine sim_gA (by assumption) (fun _ => ?_)
    refine sim_lI (by assumption) (fun _ => ?_)
    refine sim_lI (by assumption) (fun _ => ?_)
    refine sim_wI hO (by assumption) (by assumption) (fun _ _ _ _ => ?_)
    exact S_XProver_takeImages_33 hO ih (by assumption) (by assumption)
def G_XProver_takeImages (O : qOb9) (n : Nat) (l0 : Nat) (l1 : Nat) (l2 : Nat × Nat) (l3 : Nat × Nat) (S : qS) : Option (Unit × qS) :=
  G_XProver_takeImages_3 O n n l0 l1 l2 l3 (0 : Int32) S
set_option maxHeartbeats 4000000 in
set_option maxRecDepth 100000 in
theorem S_XProver_takeImages {O : qOb9} (hO : okO O) {n : Nat} {M0 : PM} {l0 : Nat} {l1 : Nat} {l2 : Nat × Nat} {l3 : Nat × Nat} {M : PM} {S : qS} (R : Rp O M S) (H : Fm O M0 M) : Sim eV O M0 (F_XProver_takeImages n l0 l1 (oA O l2.1 l2.2) (oA O l3.1 l3.2) M) (G_XProver_takeImages O n l0 l1 l2 l3 S) := by
  unfold F_XProver_takeImages G_XProver_takeImages
  exact S_XProver_takeImages_3 hO _ _ _ _ _ _ _ _ (by assumption) (by assumption)
def G_XProver_step (O : qOb9) (n : Nat) (l0 : Nat) (l1 : Nat) (l2 : Nat × Nat) (l3 : Int32) (S : qS) : Option (Unit × qS) :=
  hk 6 O l0 (
  yV (G_XProver_putIn O n l0 l1 l2 l3 S) (fun S1 =>
  hO 6 O l0 0 (fun v2 =>
  hO 2 O l1 0 (fun v3 =>
  hA 6 O l0 4 (fun v4 =>
  hk 3 O v2 (
  yV (G_XNodes_remakeAll O n v2 v3 v4 S1) (fun S5 =>
  hA 2 O l1 2 (fun v6 =>
  hk 6 O l0 (
  yV (G_XProver_takeImages O n l0 l1 v6 l2 S5) (fun S7 =>
  some ((), S7)))))))))))
set_option maxHeartbeats 4000000 in
set_option maxRecDepth 100000 in
theorem S_XProver_step {O : qOb9} (hO : okO O) {n : Nat} {M0 : PM} {l0 : Nat} {l1 : Nat} {l2 : Nat × Nat} {l3 : Int32} {M : PM} {S : qS} (R : Rp O M S) (H : Fm O M0 M) : Sim eV O M0 (F_XProver_step n l0 l1 (oA O l2.1 l2.2) l3 M) (G_XProver_step O n l0 l1 l2 l3 S) := by
  unfold F_XProver_step G_XProver_step
  refine sim_kO (by assumption) ?_
  refine sim_cV (S_XProver_putIn hO (by assumption) (by assumption)) (fun _ _ _ _ => ?_)
  refine sim_gO (by assumption) (fun _ => ?_)
  refine sim_gO (by assumption) (fun _ => ?_)
  refine sim_gA (by assumption) (fun _ => ?_)
  refine sim_kO (by assumption) ?_
  refine sim_cV (S_XNodes_remakeAll hO (by assumption) (by assumption)) (fun _ _ _ _ => ?_)
  refine sim_gA (by assumption) (fun _ => ?_)
  refine sim_kO (by assumption) ?_
  refine sim_cV (S_XProver_takeImages hO (by assumption) (by assumption)) (fun _ _ _ _ => ?_)
  exact sim_retV (by assumption) (by assumption)
def G_XProver_plainStep (O : qOb9) (n : Nat) (l0 : Nat) (l1 : Nat) (l2 : Nat × Nat) (S : qS) : Option (Unit × qS) :=
  hk 6 O l0 (
  yV (G_XProver_putIn O n l0 l1 l2 (0 : Int32) S) (fun S1 =>
  hO 6 O l0 0 (fun v2 =>
  hO 2 O l1 0 (fun v3 =>
  hA 6 O l0 4 (fun v4 =>
  hk 3 O v2 (
  yV (G_XNodes_remakeAll O n v2 v3 v4 S1) (fun S5 =>
  hA 2 O l1 3 (fun v6 =>
  hk 6 O l0 (
  yV (G_XProver_takeImages O n l0 l1 v6 l2 S5) (fun S7 =>
  some ((), S7)))))))))))
set_option maxHeartbeats 4000000 in
set_option maxRecDepth 100000 in
theorem S_XProver_plainStep {O : qOb9} (hO : okO O) {n : Nat} {M0 : PM} {l0 : Nat} {l1 : Nat} {l2 : Nat × Nat} {M : PM} {S : qS} (R : Rp O M S) (H : Fm O M0 M) : Sim eV O M0 (F_XProver_plainStep n l0 l1 (oA O l2.1 l2.2) M) (G_XProver_plainStep O n l0 l1 l2 S) := by
  unfold F_XProver_plainStep G_XProver_plainStep
  refine sim_kO (by assumption) ?_
  refine sim_cV (S_XProver_putIn hO (by assumption) (by assumption)) (fun _ _ _ _ => ?_)
  refine sim_gO (by assumption) (fun _ => ?_)
  refine sim_gO (by assumption) (fun _ => ?_)
  refine sim_gA (by assumption) (fun _ => ?_)
  refine sim_kO (by assumption) ?_
  refine sim_cV (S_XNodes_remakeAll hO (by assumption) (by assumption)) (fun _ _ _ _ => ?_)
  refine sim_gA (by assumption) (fun _ => ?_)
  refine sim_kO (by assumption) ?_
  refine sim_cV (S_XProver_takeImages hO (by assumption) (by assumption)) (fun _ _ _ _ => ?_)
  exact sim_retV (by assumption) (by assumption)
def G_XProver_markInvariants_13 (O : qOb9) (n : Nat) : Nat → Nat → Int32 → qS → Option (Unit × qS)
  | 0, _, _, _ => none
  | f + 1, l0, l1, S =>
    hO 6 O l0 1 (fun v1 =>
    hI 7 O S v1 3 (fun v2 =>
    if v2 ≤ l1 then
      some ((), S)
    else
      hO 6 O l0 0 (fun v4 =>
      hA 6 O l0 3 (fun v5 =>
      hO 6 O l0 1 (fun v6 =>
      hA 7 O v6 0 (fun v7 =>
      hl 0 O S v7 l1 (fun v8 =>
      hk 3 O v4 (
      yV (G_XNodes_mark O n v4 v5 v8 S) (fun S9 =>
      hB (l1 + (1 : Int32)) (fun v10 =>
      (G_XProver_markInvariants_13 O n f) l0 v10 S9))))))))))
set_option maxHeartbeats 4000000 in
set_option maxRecDepth 100000 in
theorem S_XProver_markInvariants_13 {O : qOb9} (hO : okO O) {n : Nat} {M0 : PM} : ∀ (f : Nat) (l0 : Nat) (l1 : Int32) (M : PM) (S : qS), Rp O M S → Fm O M0 M → Sim eV O M0 (F_XProver_markInvariants_13 n f l0 l1 M) (G_XProver_markInvariants_13 O n f l0 l1 S) := by
  intro f
  induction f with
  | zero => intro l0 l1 M S _ _; rw [G_XProver_markInvariants_13]; exact sim_none
  | succ f ih =>
    intro l0 l1 M S R H
    rw [F_XProver_markInvariants_13, G_XProver_markInvariants_13]
    refine sim_gO (by assumption) (fun _ => ?_)
    refine sim_gI (by assumption) (fun _ => ?_)
    refine sim_if (fun _ => ?_) (fun _ => ?_)
    exact sim_retV (by assumption) (by assumption)
    refine sim_gO (by assumption) (fun _ => ?_)
    refine sim_gA (by assumption) (fun _ => ?_)
    refine sim_gO (by assumption) (fun _ => ?_)
    refine sim_gA (by assumption) (fun _ => ?_)
    refine sim_lI (by assumption) (fun _ => ?_)
    refine sim_kO (by assumption) ?_
    refine sim_cV (S_XNodes_mark hO (by assumption) (by assumption)) (fun _ _ _ _ => ?_)
    refine sim_bI (fun _ => ?_)
    exact ih _ _ _ _ (by assumption) (by assumption)
def G_XProver_markInvariants (O : qOb9) (n : Nat) (l0 : Nat) (S : qS) : Option (Unit × qS) :=
  hO 6 O l0 0 (fun v1 =>
  hA 6 O l0 3 (fun v2 =>
  hk 3 O v1 (
  yV (G_XNodes_unmark O n v1 v2 S) (fun S3 =>
  G_XProver_markInvariants_13 O n n l0 (0 : Int32) S3))))
set_option maxHeartbeats 4000000 in
set_option maxRecDepth 100000 in
theorem S_XProver_markInvariants {O : qOb9} (hO : okO O) {n : Nat} {M0 : PM} {l0 : Nat} {M : PM} {S : qS} (R : Rp O M S) (H : Fm O M0 M) : Sim eV O M0 (F_XProver_markInvariants n l0 M) (G_XProver_markInvariants O n l0 S) := by
  unfold F_XProver_markInvariants G_XProver_markInvariants
  refine sim_gO (by assumption) (fun _ => ?_)
  refine sim_gA (by assumption) (fun _ => ?_)
  refine sim_kO (by assumption) ?_
  refine sim_cV (S_XNodes_unmark hO (by assumption) (by assumption)) (fun _ _ _ _ => ?_)
  exact S_XProver_markInvariants_13 hO _ _ _ _ _ (by assumption) (by assumption)
def G_XProver_countDeep_86 (O : qOb9) (n : Nat) (rec13 : Nat → Nat → Int32 → qS → Option (Unit × qS)) (l0 : Nat) (l1 : Nat) (l2 : Int32) (S : qS) : Option (Unit × qS) :=
  hB (l2 + (1 : Int32)) (fun v1 =>
  rec13 l0 l1 v1 S)
set_option maxHeartbeats 4000000 in
set_option maxRecDepth 100000 in
theorem S_XProver_countDeep_86 {O : qOb9} (hO : okO O) {n : Nat} {M0 : PM} {rec13 : Nat → Nat → Int32 → PM → qO} {grec13 : Nat → Nat → Int32 → qS → Option (Unit × qS)} (hrec13 : ∀ (l0 : Nat) (l1 : Nat) (l2 : Int32) (M : PM) (S : qS), Rp O M S → Fm O M0 M → Sim eV O M0 (rec13 l0 l1 l2 M) (grec13 l0 l1 l2 S)) {l0 : Nat} {l1 : Nat} {l2 : Int32} {M : PM} {S : qS} (R : Rp O M S) (H : Fm O M0 M) : Sim eV O M0 (F_XProver_countDeep_86 n rec13 l0 l1 l2 M) (G_XProver_countDeep_86 O n grec13 l0 l1 l2 S) := by
  unfold F_XProver_countDeep_86 G_XProver_countDeep_86
  refine sim_bI (fun _ => ?_)
  exact hrec13 _ _ _ _ _ (by assumption) (by assumption)
def G_XProver_countDeep_53 (O : qOb9) (n : Nat) (rec13 : Nat → Nat → Int32 → qS → Option (Unit × qS)) (l0 : Nat) (l1 : Nat) (l2 : Int32) (S : qS) : Option (Unit × qS) :=
  hI 4 O S l1 5 (fun v1 =>
  hP 4 O S l1 5 ((v1 + (1 : Int32))) (fun S2 =>
  G_XProver_countDeep_86 O n rec13 l0 l1 l2 S2))
set_option maxHeartbeats 4000000 in
set_option maxRecDepth 100000 in
theorem S_XProver_countDeep_53 {O : qOb9} (hO : okO O) {n : Nat} {M0 : PM} {rec13 : Nat → Nat → Int32 → PM → qO} {grec13 : Nat → Nat → Int32 → qS → Option (Unit × qS)} (hrec13 : ∀ (l0 : Nat) (l1 : Nat) (l2 : Int32) (M : PM) (S : qS), Rp O M S → Fm O M0 M → Sim eV O M0 (rec13 l0 l1 l2 M) (grec13 l0 l1 l2 S)) {l0 : Nat} {l1 : Nat} {l2 : Int32} {M : PM} {S : qS} (R : Rp O M S) (H : Fm O M0 M) : Sim eV O M0 (F_XProver_countDeep_53 n rec13 l0 l1 l2 M) (G_XProver_countDeep_53 O n grec13 l0 l1 l2 S) := by
  unfold F_XProver_countDeep_53 G_XProver_countDeep_53
  refine sim_gI (by assumption) (fun _ => ?_)
  refine sim_pF (by assumption) (by assumption) (fun _ _ _ _ => ?_)
  exact S_XProver_countDeep_86 hO hrec13 (by assumption) (by assumption)
def G_XProver_countDeep_76 (O : qOb9) (n : Nat) (rec13 : Nat → Nat → Int32 → qS → Option (Unit × qS)) (l0 : Nat) (l1 : Nat) (l2 : Int32) (S : qS) : Option (Unit × qS) :=
  hI 4 O S l1 6 (fun v1 =>
  hP 4 O S l1 6 ((v1 + (1 : Int32))) (fun S2 =>
  G_XProver_countDeep_86 O n rec13 l0 l1 l2 S2))
set_option maxHeartbeats 4000000 in
set_option maxRecDepth 100000 in
theorem S_XProver_countDeep_76 {O : qOb9} (hO : okO O) {n : Nat} {M0 : PM} {rec13 : Nat → Nat → Int32 → PM → qO} {grec13 : Nat → Nat → Int32 → qS → Option (Unit × qS)} (hrec13 : ∀ (l0 : Nat) (l1 : Nat) (l2 : Int32) (M : PM) (S : qS), Rp O M S → Fm O M0 M → Sim eV O M0 (rec13 l0 l1 l2 M) (grec13 l0 l1 l2 S)) {l0 : Nat} {l1 : Nat} {l2 : Int32} {M : PM} {S : qS} (R : Rp O M S) (H : Fm O M0 M) : Sim eV O M0 (F_XProver_countDeep_76 n rec13 l0 l1 l2 M) (G_XProver_countDeep_76 O n grec13 l0 l1 l2 S) := by
  unfold F_XProver_countDeep_76 G_XProver_countDeep_76
  refine sim_gI (by assumption) (fun _ => ?_)
  refine sim_pF (by assumption) (by assumption) (fun _ _ _ _ => ?_)
  exact S_XProver_countDeep_86 hO hrec13 (by assumption) (by assumption)
def G_XProver_countDeep_13 (O : qOb9) (n : Nat) : Nat → Nat → Nat → Int32 → qS → Option (Unit × qS)
  | 0, _, _, _, _ => none
  | f + 1, l0, l1, l2, S =>
    hO 6 O l0 0 (fun v1 =>
    hI 3 O S v1 7 (fun v2 =>
    if v2 ≤ l2 then
      some ((), S)
    else
      hA 6 O l0 3 (fun v4 =>
      hl 1 O S v4 l2 (fun v5 =>
      if v5 = (0 : Int32) then
        G_XProver_countDeep_86 O n (G_XProver_countDeep_13 O n f) l0 l1 l2 S
      else
        hO 6 O l0 0 (fun v7 =>
        hA 3 O v7 0 (fun v8 =>
        hl 0 O S v8 l2 (fun v9 =>
        if v9 = (3 : Int32) then
          G_XProver_countDeep_53 O n (G_XProver_countDeep_13 O n f) l0 l1 l2 S
        else
          if v9 = (5 : Int32) then
            G_XProver_countDeep_53 O n (G_XProver_countDeep_13 O n f) l0 l1 l2 S
          else
            if v9 = (4 : Int32) then
              G_XProver_countDeep_76 O n (G_XProver_countDeep_13 O n f) l0 l1 l2 S
            else
              if v9 = (2 : Int32) then
                G_XProver_countDeep_76 O n (G_XProver_countDeep_13 O n f) l0 l1 l2 S
              else
                G_XProver_countDeep_86 O n (G_XProver_countDeep_13 O n f) l0 l1 l2 S)))))))
set_option maxHeartbeats 4000000 in
set_option maxRecDepth 100000 in
theorem S_XProver_countDeep_13 {O : qOb9} (hO : okO O) {n : Nat} {M0 : PM} : ∀ (f : Nat) (l0 : Nat) (l1 : Nat) (l2 : Int32) (M : PM) (S : qS), Rp O M S → Fm O M0 M → Sim eV O M0 (F_XProver_countDeep_13 n f l0 l1 l2 M) (G_XProver_countDeep_13 O n f l0 l1 l2 S) := by
  intro f
  induction f with
  | zero => intro l0 l1 l2 M S _ _; rw [G_XProver_countDeep_13]; exact sim_none
  | succ f ih =>
    intro l0 l1 l2 M S R H
    rw [F_XProver_countDeep_13, G_XProver_countDeep_13]
    refine sim_gO (by assumption) (fun _ => ?_)
    refine sim_gI (by assumption) (fun _ => ?_)
    refine sim_if (fun _ => ?_) (fun _ => ?_)
    exact sim_retV (by assumption) (by assumption)
    refine sim_gA (by assumption) (fun _ => ?_)
    refine sim_lZ (by assumption) (fun _ => ?_)
    refine sim_if (fun _ => ?_) (fun _ => ?_)
    exact S_XProver_countDeep_86 hO ih (by assumption) (by assumption)
    refine sim_gO (by assumption) (fun _ => ?_)
    refine sim_gA (by assumption) (fun _ => ?_)
    refine sim_lI (by assumption) (fun _ => ?_)
    refine sim_if (fun _ => ?_) (fun _ => ?_)
    exact S_XProver_countDeep_53 hO ih (by assumption) (by assumption)
    refine sim_if (fun _ => ?_) (fun _ => ?_)
    exact S_XProver_countDeep_53 hO ih (by assumption) (by assumption)
    refine sim_if (fun _ => ?_) (fun _ => ?_)
    exact S_XProver_countDeep_76 hO ih (by assumption) (by assumption)
    refine sim_if (fun _ => ?_) (fun _ => ?_)
    exact S_XProver_countDeep_76 hO ih (by assumption) (by assumption)
    exact S_XProver_countDeep_86 hO ih (by assumption) (by assumption)
def G_XProver_countDeep (O : qOb9) (n : Nat) (l0 : Nat) (l1 : Nat) (S : qS) : Option (Unit × qS) :=
  hO 6 O l0 0 (fun v1 =>
  hA 6 O l0 3 (fun v2 =>
  hk 3 O v1 (
  yV (G_XNodes_spread O n v1 v2 S) (fun S3 =>
  G_XProver_countDeep_13 O n n l0 l1 (0 : Int32) S3))))
set_option maxHeartbeats 4000000 in
set_option maxRecDepth 100000 in
theorem S_XProver_countDeep {O : qOb9} (hO : okO O) {n : Nat} {M0 : PM} {l0 : Nat} {l1 : Nat} {M : PM} {S : qS} (R : Rp O M S) (H : Fm O M0 M) : Sim eV O M0 (F_XProver_countDeep n l0 l1 M) (G_XProver_countDeep O n l0 l1 S) := by
  unfold F_XProver_countDeep G_XProver_countDeep
  refine sim_gO (by assumption) (fun _ => ?_)
  refine sim_gA (by assumption) (fun _ => ?_)
  refine sim_kO (by assumption) ?_
  refine sim_cV (S_XNodes_spread hO (by assumption) (by assumption)) (fun _ _ _ _ => ?_)
  exact S_XProver_countDeep_13 hO _ _ _ _ _ _ (by assumption) (by assumption)
def G_XQuestion_addClaim_46 (O : qOb9) (n : Nat) (S : qS) : Option (Unit × qS) :=
  some ((), S)
set_option maxHeartbeats 4000000 in
set_option maxRecDepth 100000 in
theorem S_XQuestion_addClaim_46 {O : qOb9} (hO : okO O) {n : Nat} {M0 : PM} {M : PM} {S : qS} (R : Rp O M S) (H : Fm O M0 M) : Sim eV O M0 (F_XQuestion_addClaim_46 n M) (G_XQuestion_addClaim_46 O n S) := by
  unfold F_XQuestion_addClaim_46 G_XQuestion_addClaim_46
  exact sim_retV (by assumption) (by assumption)
def G_XQuestion_addClaim (O : qOb9) (n : Nat) (l0 : Nat) (l1 : Int32) (l2 : Int32) (S : qS) : Option (Unit × qS) :=
  if l1 ≤ (0 : Int32) then
    G_XQuestion_addClaim_46 O n S
  else
    hI 7 O S l0 4 (fun v2 =>
    hA 7 O l0 1 (fun v3 =>
    hn O v3 (fun v4 =>
    if v4 ≤ v2 then
      G_XQuestion_addClaim_46 O n S
    else
      hA 7 O l0 1 (fun v6 =>
      hI 7 O S l0 4 (fun v7 =>
      hw 0 O S v6 v7 l1 (fun S8 =>
      hA 7 O l0 2 (fun v9 =>
      hI 7 O S8 l0 4 (fun v10 =>
      hw 0 O S8 v9 v10 l2 (fun S11 =>
      hI 7 O S11 l0 4 (fun v12 =>
      hP 7 O S11 l0 4 ((v12 + (1 : Int32))) (fun S13 =>
      G_XQuestion_addClaim_46 O n S13)))))))))))
set_option maxHeartbeats 4000000 in
set_option maxRecDepth 100000 in
theorem S_XQuestion_addClaim {O : qOb9} (hO : okO O) {n : Nat} {M0 : PM} {l0 : Nat} {l1 : Int32} {l2 : Int32} {M : PM} {S : qS} (R : Rp O M S) (H : Fm O M0 M) : Sim eV O M0 (F_XQuestion_addClaim n l0 l1 l2 M) (G_XQuestion_addClaim O n l0 l1 l2 S) := by
  unfold F_XQuestion_addClaim G_XQuestion_addClaim
  refine sim_if (fun _ => ?_) (fun _ => ?_)
  exact S_XQuestion_addClaim_46 hO (by assumption) (by assumption)
  refine sim_gI (by assumption) (fun _ => ?_)
  refine sim_gA (by assumption) (fun _ => ?_)
  refine sim_aL (by assumption) (fun _ => ?_)
  refine sim_if (fun _ => ?_) (fun _ => ?_)
  exact S_XQuestion_addClaim_46 hO (by assumption) (by assumption)
  refine sim_gA (by assumption) (fun _ => ?_)
  refine sim_gI (by assumption) (fun _ => ?_)
  refine sim_wI hO (by assumption) (by assumption) (fun _ _ _ _ => ?_)
  refine sim_gA (by assumption) (fun _ => ?_)
  refine sim_gI (by assumption) (fun _ => ?_)
  refine sim_wI hO (by assumption) (by assumption) (fun _ _ _ _ => ?_)
  refine sim_gI (by assumption) (fun _ => ?_)
  refine sim_pF (by assumption) (by assumption) (fun _ _ _ _ => ?_)
  exact S_XQuestion_addClaim_46 hO (by assumption) (by assumption)
def G_XProver_askEquation_131 (O : qOb9) (n : Nat) (rec75 : Nat → Nat → Nat → Int32 → qS → Option (Unit × qS)) (l0 : Nat) (l1 : Nat) (l3 : Nat) (l4 : Int32) (S : qS) : Option (Unit × qS) :=
  hB (l4 + (1 : Int32)) (fun v1 =>
  rec75 l0 l1 l3 v1 S)
set_option maxHeartbeats 4000000 in
set_option maxRecDepth 100000 in
theorem S_XProver_askEquation_131 {O : qOb9} (hO : okO O) {n : Nat} {M0 : PM} {rec75 : Nat → Nat → Nat → Int32 → PM → qO} {grec75 : Nat → Nat → Nat → Int32 → qS → Option (Unit × qS)} (hrec75 : ∀ (l0 : Nat) (l1 : Nat) (l3 : Nat) (l4 : Int32) (M : PM) (S : qS), Rp O M S → Fm O M0 M → Sim eV O M0 (rec75 l0 l1 l3 l4 M) (grec75 l0 l1 l3 l4 S)) {l0 : Nat} {l1 : Nat} {l3 : Nat} {l4 : Int32} {M : PM} {S : qS} (R : Rp O M S) (H : Fm O M0 M) : Sim eV O M0 (F_XProver_askEquation_131 n rec75 l0 l1 l3 l4 M) (G_XProver_askEquation_131 O n grec75 l0 l1 l3 l4 S) := by
  unfold F_XProver_askEquation_131 G_XProver_askEquation_131
  refine sim_bI (fun _ => ?_)
  exact hrec75 _ _ _ _ _ _ (by assumption) (by assumption)
def G_XProver_askEquation_195 (O : qOb9) (n : Nat) (rec145 : Nat → Nat → Int32 → qS → Option (Unit × qS)) (l0 : Nat) (l1 : Nat) (l4 : Int32) (S : qS) : Option (Unit × qS) :=
  hB (l4 + (1 : Int32)) (fun v1 =>
  rec145 l0 l1 v1 S)
set_option maxHeartbeats 4000000 in
set_option maxRecDepth 100000 in
theorem S_XProver_askEquation_195 {O : qOb9} (hO : okO O) {n : Nat} {M0 : PM} {rec145 : Nat → Nat → Int32 → PM → qO} {grec145 : Nat → Nat → Int32 → qS → Option (Unit × qS)} (hrec145 : ∀ (l0 : Nat) (l1 : Nat) (l4 : Int32) (M : PM) (S : qS), Rp O M S → Fm O M0 M → Sim eV O M0 (rec145 l0 l1 l4 M) (grec145 l0 l1 l4 S)) {l0 : Nat} {l1 : Nat} {l4 : Int32} {M : PM} {S : qS} (R : Rp O M S) (H : Fm O M0 M) : Sim eV O M0 (F_XProver_askEquation_195 n rec145 l0 l1 l4 M) (G_XProver_askEquation_195 O n grec145 l0 l1 l4 S) := by
  unfold F_XProver_askEquation_195 G_XProver_askEquation_195
  refine sim_bI (fun _ => ?_)
  exact hrec145 _ _ _ _ _ (by assumption) (by assumption)
def G_XProver_askEquation_145 (O : qOb9) (n : Nat) : Nat → Nat → Nat → Int32 → qS → Option (Unit × qS)
  | 0, _, _, _, _ => none
  | f + 1, l0, l1, l4, S =>
    hI 2 O S l1 6 (fun v1 =>
    if v1 ≤ l4 then
      some ((), S)
    else
      hA 2 O l1 3 (fun v3 =>
      hl 0 O S v3 l4 (fun v4 =>
      if v4 = (-1 : Int32) then
        G_XProver_askEquation_195 O n (G_XProver_askEquation_145 O n f) l0 l1 l4 S
      else
        hO 6 O l0 1 (fun v6 =>
        hO 6 O l0 0 (fun v7 =>
        hA 6 O l0 5 (fun v8 =>
        hl 0 O S v8 l4 (fun v9 =>
        hA 6 O l0 6 (fun v10 =>
        hl 0 O S v10 l4 (fun v11 =>
        hk 3 O v7 (
        yC (G_XNodes_makeDifference O n v7 v9 v11 S) (fun v13 S12 =>
        hk 7 O v6 (
        yV (G_XQuestion_addClaim O n v6 v13 l4 S12) (fun S14 =>
        G_XProver_askEquation_195 O n (G_XProver_askEquation_145 O n f) l0 l1 l4 S14)))))))))))))
set_option maxHeartbeats 4000000 in
set_option maxRecDepth 100000 in
theorem S_XProver_askEquation_145 {O : qOb9} (hO : okO O) {n : Nat} {M0 : PM} : ∀ (f : Nat) (l0 : Nat) (l1 : Nat) (l4 : Int32) (M : PM) (S : qS), Rp O M S → Fm O M0 M → Sim eV O M0 (F_XProver_askEquation_145 n f l0 l1 l4 M) (G_XProver_askEquation_145 O n f l0 l1 l4 S) := by
  intro f
  induction f with
  | zero => intro l0 l1 l4 M S _ _; rw [G_XProver_askEquation_145]; exact sim_none
  | succ f ih =>
    intro l0 l1 l4 M S R H
    rw [F_XProver_askEquation_145, G_XProver_askEquation_145]
    refine sim_gI (by assumption) (fun _ => ?_)
    refine sim_if (fun _ => ?_) (fun _ => ?_)
    exact sim_retV (by assumption) (by assumption)
    refine sim_gA (by assumption) (fun _ => ?_)
    refine sim_lI (by assumption) (fun _ => ?_)
    refine sim_if (fun _ => ?_) (fun _ => ?_)
    exact S_XProver_askEquation_195 hO ih (by assumption) (by assumption)
    refine sim_gO (by assumption) (fun _ => ?_)
    refine sim_gO (by assumption) (fun _ => ?_)
    refine sim_gA (by assumption) (fun _ => ?_)
    refine sim_lI (by assumption) (fun _ => ?_)
    refine sim_gA (by assumption) (fun _ => ?_)
    refine sim_lI (by assumption) (fun _ => ?_)
    refine sim_kO (by assumption) ?_
    refine sim_cI (S_XNodes_makeDifference hO (by assumption) (by assumption)) (fun _ _ _ _ _ => ?_)
    refine sim_kO (by assumption) ?_
    refine sim_cV (S_XQuestion_addClaim hO (by assumption) (by assumption)) (fun _ _ _ _ => ?_)
    exact S_XProver_askEquation_195 hO ih (by assumption) (by assumption)
def G_XProver_askEquation_75 (O : qOb9) (n : Nat) : Nat → Nat → Nat → Nat → Int32 → qS → Option (Unit × qS)
  | 0, _, _, _, _, _ => none
  | f + 1, l0, l1, l3, l4, S =>
    hI 2 O S l1 6 (fun v1 =>
    if v1 ≤ l4 then
      hk 6 O l0 (
      yV (G_XProver_countDeep O n l0 l3 S) (fun S3 =>
      G_XProver_askEquation_145 O n n l0 l1 (0 : Int32) S3))
    else
      hA 2 O l1 3 (fun v4 =>
      hl 0 O S v4 l4 (fun v5 =>
      if v5 = (-1 : Int32) then
        G_XProver_askEquation_131 O n (G_XProver_askEquation_75 O n f) l0 l1 l3 l4 S
      else
        hO 6 O l0 0 (fun v7 =>
        hA 6 O l0 3 (fun v8 =>
        hA 6 O l0 5 (fun v9 =>
        hl 0 O S v9 l4 (fun v10 =>
        hk 3 O v7 (
        yV (G_XNodes_mark O n v7 v8 v10 S) (fun S11 =>
        hO 6 O l0 0 (fun v12 =>
        hA 6 O l0 3 (fun v13 =>
        hA 6 O l0 6 (fun v14 =>
        hl 0 O S11 v14 l4 (fun v15 =>
        hk 3 O v12 (
        yV (G_XNodes_mark O n v12 v13 v15 S11) (fun S16 =>
        G_XProver_askEquation_131 O n (G_XProver_askEquation_75 O n f) l0 l1 l3 l4 S16)))))))))))))))
set_option maxHeartbeats 4000000 in
set_option maxRecDepth 100000 in
theorem S_XProver_askEquation_75 {O : qOb9} (hO : okO O) {n : Nat} {M0 : PM} : ∀ (f : Nat) (l0 : Nat) (l1 : Nat) (l3 : Nat) (l4 : Int32) (M : PM) (S : qS), Rp O M S → Fm O M0 M → Sim eV O M0 (F_XProver_askEquation_75 n f l0 l1 l3 l4 M) (G_XProver_askEquation_75 O n f l0 l1 l3 l4 S) := by
  intro f
  induction f with
  | zero => intro l0 l1 l3 l4 M S _ _; rw [G_XProver_askEquation_75]; exact sim_none
  | succ f ih =>
    intro l0 l1 l3 l4 M S R H
    rw [F_XProver_askEquation_75, G_XProver_askEquation_75]
    refine sim_gI (by assumption) (fun _ => ?_)
    refine sim_if (fun _ => ?_) (fun _ => ?_)
    refine sim_kO (by assumption) ?_
    refine sim_cV (S_XProver_countDeep hO (by assumption) (by assumption)) (fun _ _ _ _ => ?_)
    exact S_XProver_askEquation_145 hO _ _ _ _ _ _ (by assumption) (by assumption)
    refine sim_gA (by assumption) (fun _ => ?_)
    refine sim_lI (by assumption) (fun _ => ?_)
    refine sim_if (fun _ => ?_) (fun _ => ?_)
    exact S_XProver_askEquation_131 hO ih (by assumption) (by assumption)
    refine sim_gO (by assumption) (fun _ => ?_)
    refine sim_gA (by assumption) (fun _ => ?_)
    refine sim_gA (by assumption) (fun _ => ?_)
    refine sim_lI (by assumption) (fun _ => ?_)
    refine sim_kO (by assumption) ?_
    refine sim_cV (S_XNodes_mark hO (by assumption) (by assumption)) (fun _ _ _ _ => ?_)
    refine sim_gO (by assumption) (fun _ => ?_)
    refine sim_gA (by assumption) (fun _ => ?_)
    refine sim_gA (by assumption) (fun _ => ?_)
    refine sim_lI (by assumption) (fun _ => ?_)
    refine sim_kO (by assumption) ?_
    refine sim_cV (S_XNodes_mark hO (by assumption) (by assumption)) (fun _ _ _ _ => ?_)
    exact S_XProver_askEquation_131 hO ih (by assumption) (by assumption)
def G_XProver_askEquation_27 (O : qOb9) (n : Nat) : Nat → Nat → Nat → Int32 → Nat → Int32 → qS → Option (Unit × qS)
  | 0, _, _, _, _, _, _ => none
  | f + 1, l0, l1, l2, l3, l4, S =>
    if l2 ≤ l4 then
      hA 6 O l0 6 (fun v2 =>
      hk 6 O l0 (
      yV (G_XProver_plainStep O n l0 l1 v2 S) (fun S3 =>
      hk 6 O l0 (
      yV (G_XProver_markInvariants O n l0 S3) (fun S4 =>
      G_XProver_askEquation_75 O n n l0 l1 l3 (0 : Int32) S4)))))
    else
      hA 6 O l0 5 (fun v5 =>
      hk 6 O l0 (
      yV (G_XProver_step O n l0 l1 v5 (0 : Int32) S) (fun S6 =>
      hA 6 O l0 6 (fun v7 =>
      hk 6 O l0 (
      yV (G_XProver_step O n l0 l1 v7 (0 : Int32) S6) (fun S8 =>
      hB (l4 + (1 : Int32)) (fun v9 =>
      (G_XProver_askEquation_27 O n f) l0 l1 l2 l3 v9 S8)))))))
set_option maxHeartbeats 4000000 in
set_option maxRecDepth 100000 in
theorem S_XProver_askEquation_27 {O : qOb9} (hO : okO O) {n : Nat} {M0 : PM} : ∀ (f : Nat) (l0 : Nat) (l1 : Nat) (l2 : Int32) (l3 : Nat) (l4 : Int32) (M : PM) (S : qS), Rp O M S → Fm O M0 M → Sim eV O M0 (F_XProver_askEquation_27 n f l0 l1 l2 l3 l4 M) (G_XProver_askEquation_27 O n f l0 l1 l2 l3 l4 S) := by
  intro f
  induction f with
  | zero => intro l0 l1 l2 l3 l4 M S _ _; rw [G_XProver_askEquation_27]; exact sim_none
  | succ f ih =>
    intro l0 l1 l2 l3 l4 M S R H
    rw [F_XProver_askEquation_27, G_XProver_askEquation_27]
    refine sim_if (fun _ => ?_) (fun _ => ?_)
    refine sim_gA (by assumption) (fun _ => ?_)
    refine sim_kO (by assumption) ?_
    refine sim_cV (S_XProver_plainStep hO (by assumption) (by assumption)) (fun _ _ _ _ => ?_)
    refine sim_kO (by assumption) ?_
    refine sim_cV (S_XProver_markInvariants hO (by assumption) (by assumption)) (fun _ _ _ _ => ?_)
    exact S_XProver_askEquation_75 hO _ _ _ _ _ _ _ (by assumption) (by assumption)
    refine sim_gA (by assumption) (fun _ => ?_)
    refine sim_kO (by assumption) ?_
    refine sim_cV (S_XProver_step hO (by assumption) (by assumption)) (fun _ _ _ _ => ?_)
    refine sim_gA (by assumption) (fun _ => ?_)
    refine sim_kO (by assumption) ?_
    refine sim_cV (S_XProver_step hO (by assumption) (by assumption)) (fun _ _ _ _ => ?_)
    refine sim_bI (fun _ => ?_)
    exact ih _ _ _ _ _ _ _ (by assumption) (by assumption)
def G_XProver_askEquation (O : qOb9) (n : Nat) (l0 : Nat) (l1 : Nat) (l2 : Int32) (l3 : Nat) (S : qS) : Option (Unit × qS) :=
  hI 2 O S l1 6 (fun v1 =>
  hk 4 O l3 (
  yV (G_XOutcome_begin O n l3 v1 (1 : Int32) S) (fun S2 =>
  hk 6 O l0 (
  yV (G_XProver_begin O n l0 l1 S2) (fun S3 =>
  hA 6 O l0 5 (fun v4 =>
  hk 6 O l0 (
  yV (G_XProver_step O n l0 l1 v4 (1 : Int32) S3) (fun S5 =>
  G_XProver_askEquation_27 O n n l0 l1 l2 l3 (0 : Int32) S5))))))))
set_option maxHeartbeats 4000000 in
set_option maxRecDepth 100000 in
theorem S_XProver_askEquation {O : qOb9} (hO : okO O) {n : Nat} {M0 : PM} {l0 : Nat} {l1 : Nat} {l2 : Int32} {l3 : Nat} {M : PM} {S : qS} (R : Rp O M S) (H : Fm O M0 M) : Sim eV O M0 (F_XProver_askEquation n l0 l1 l2 l3 M) (G_XProver_askEquation O n l0 l1 l2 l3 S) := by
  unfold F_XProver_askEquation G_XProver_askEquation
  refine sim_gI (by assumption) (fun _ => ?_)
  refine sim_kO (by assumption) ?_
  refine sim_cV (S_XOutcome_begin hO (by assumption) (by assumption)) (fun _ _ _ _ => ?_)
  refine sim_kO (by assumption) ?_
  refine sim_cV (S_XProver_begin hO (by assumption) (by assumption)) (fun _ _ _ _ => ?_)
  refine sim_gA (by assumption) (fun _ => ?_)
  refine sim_kO (by assumption) ?_
  refine sim_cV (S_XProver_step hO (by assumption) (by assumption)) (fun _ _ _ _ => ?_)
  exact S_XProver_askEquation_27 hO _ _ _ _ _ _ _ _ (by assumption) (by assumption)
def G_XProver_askKept (O : qOb9) (n : Nat) (l0 : Nat) (l1 : Nat) (l2 : Int32) (l3 : Nat) (S : qS) : Option (Unit × qS) :=
  hI 2 O S l1 6 (fun v1 =>
  hk 4 O l3 (
  yV (G_XOutcome_begin O n l3 v1 (0 : Int32) S) (fun S2 =>
  hk 6 O l0 (
  yV (G_XProver_begin O n l0 l1 S2) (fun S3 =>
  hA 6 O l0 5 (fun v4 =>
  hk 6 O l0 (
  yV (G_XProver_step O n l0 l1 v4 (2 : Int32) S3) (fun S5 =>
  hA 6 O l0 5 (fun v6 =>
  hk 6 O l0 (
  yV (G_XProver_putIn O n l0 l1 v6 (2 : Int32) S5) (fun S7 =>
  hO 6 O l0 0 (fun v8 =>
  hO 2 O l1 0 (fun v9 =>
  hA 6 O l0 4 (fun v10 =>
  hk 3 O v8 (
  yV (G_XNodes_remakeAll O n v8 v9 v10 S7) (fun S11 =>
  hA 6 O l0 4 (fun v12 =>
  hA 2 O l1 4 (fun v13 =>
  hl 0 O S11 v13 l2 (fun v14 =>
  hl 0 O S11 v12 v14 (fun v15 =>
  hk 6 O l0 (
  yV (G_XProver_markInvariants O n l0 S11) (fun S16 =>
  hO 6 O l0 0 (fun v17 =>
  hA 6 O l0 3 (fun v18 =>
  hk 3 O v17 (
  yV (G_XNodes_mark O n v17 v18 v15 S16) (fun S19 =>
  hk 6 O l0 (
  yV (G_XProver_countDeep O n l0 l3 S19) (fun S20 =>
  hO 6 O l0 1 (fun v21 =>
  hO 6 O l0 0 (fun v22 =>
  hk 3 O v22 (
  yC (G_XNodes_makeNot O n v22 v15 S20) (fun v24 S23 =>
  hk 7 O v21 (
  yV (G_XQuestion_addClaim O n v21 v24 (-1 : Int32) S23) (fun S25 =>
  some ((), S25)))))))))))))))))))))))))))))))))))
set_option maxHeartbeats 4000000 in
set_option maxRecDepth 100000 in
theorem S_XProver_askKept {O : qOb9} (hO : okO O) {n : Nat} {M0 : PM} {l0 : Nat} {l1 : Nat} {l2 : Int32} {l3 : Nat} {M : PM} {S : qS} (R : Rp O M S) (H : Fm O M0 M) : Sim eV O M0 (F_XProver_askKept n l0 l1 l2 l3 M) (G_XProver_askKept O n l0 l1 l2 l3 S) := by
  unfold F_XProver_askKept G_XProver_askKept
  refine sim_gI (by assumption) (fun _ => ?_)
  refine sim_kO (by assumption) ?_
  refine sim_cV (S_XOutcome_begin hO (by assumption) (by assumption)) (fun _ _ _ _ => ?_)
  refine sim_kO (by assumption) ?_
  refine sim_cV (S_XProver_begin hO (by assumption) (by assumption)) (fun _ _ _ _ => ?_)
  refine sim_gA (by assumption) (fun _ => ?_)
  refine sim_kO (by assumption) ?_
  refine sim_cV (S_XProver_step hO (by assumption) (by assumption)) (fun _ _ _ _ => ?_)
  refine sim_gA (by assumption) (fun _ => ?_)
  refine sim_kO (by assumption) ?_
  refine sim_cV (S_XProver_putIn hO (by assumption) (by assumption)) (fun _ _ _ _ => ?_)
  refine sim_gO (by assumption) (fun _ => ?_)
  refine sim_gO (by assumption) (fun _ => ?_)
  refine sim_gA (by assumption) (fun _ => ?_)
  refine sim_kO (by assumption) ?_
  refine sim_cV (S_XNodes_remakeAll hO (by assumption) (by assumption)) (fun _ _ _ _ => ?_)
  refine sim_gA (by assumption) (fun _ => ?_)
  refine sim_gA (by assumption) (fun _ => ?_)
  refine sim_lI (by assumption) (fun _ => ?_)
  refine sim_lI (by assumption) (fun _ => ?_)
  refine sim_kO (by assumption) ?_
  refine sim_cV (S_XProver_markInvariants hO (by assumption) (by assumption)) (fun _ _ _ _ => ?_)
  refine sim_gO (by assumption) (fun _ => ?_)
  refine sim_gA (by assumption) (fun _ => ?_)
  refine sim_kO (by assumption) ?_
  refine sim_cV (S_XNodes_mark hO (by assumption) (by assumption)) (fun _ _ _ _ => ?_)
  refine sim_kO (by assumption) ?_
  refine sim_cV (S_XProver_countDeep hO (by assumption) (by assumption)) (fun _ _ _ _ => ?_)
  refine sim_gO (by assumption) (fun _ => ?_)
  refine sim_gO (by assumption) (fun _ => ?_)
  refine sim_kO (by assumption) ?_
  refine sim_cI (S_XNodes_makeNot hO (by assumption) (by assumption)) (fun _ _ _ _ _ => ?_)
  refine sim_kO (by assumption) ?_
  refine sim_cV (S_XQuestion_addClaim hO (by assumption) (by assumption)) (fun _ _ _ _ => ?_)
  exact sim_retV (by assumption) (by assumption)
def G_XProver_markNeeded_6 (O : qOb9) (n : Nat) : Nat → Nat → Int32 → qS → Option (Unit × qS)
  | 0, _, _, _ => none
  | f + 1, l0, l1, S =>
    hO 6 O l0 1 (fun v1 =>
    hI 7 O S v1 4 (fun v2 =>
    if v2 ≤ l1 then
      hO 6 O l0 0 (fun v4 =>
      hA 6 O l0 3 (fun v5 =>
      hk 3 O v4 (
      yV (G_XNodes_spread O n v4 v5 S) (fun S6 =>
      some ((), S6)))))
    else
      hO 6 O l0 0 (fun v7 =>
      hA 6 O l0 3 (fun v8 =>
      hO 6 O l0 1 (fun v9 =>
      hA 7 O v9 1 (fun v10 =>
      hl 0 O S v10 l1 (fun v11 =>
      hk 3 O v7 (
      yV (G_XNodes_mark O n v7 v8 v11 S) (fun S12 =>
      hB (l1 + (1 : Int32)) (fun v13 =>
      (G_XProver_markNeeded_6 O n f) l0 v13 S12))))))))))
set_option maxHeartbeats 4000000 in
set_option maxRecDepth 100000 in
theorem S_XProver_markNeeded_6 {O : qOb9} (hO : okO O) {n : Nat} {M0 : PM} : ∀ (f : Nat) (l0 : Nat) (l1 : Int32) (M : PM) (S : qS), Rp O M S → Fm O M0 M → Sim eV O M0 (F_XProver_markNeeded_6 n f l0 l1 M) (G_XProver_markNeeded_6 O n f l0 l1 S) := by
  intro f
  induction f with
  | zero => intro l0 l1 M S _ _; rw [G_XProver_markNeeded_6]; exact sim_none
  | succ f ih =>
    intro l0 l1 M S R H
    rw [F_XProver_markNeeded_6, G_XProver_markNeeded_6]
    refine sim_gO (by assumption) (fun _ => ?_)
    refine sim_gI (by assumption) (fun _ => ?_)
    refine sim_if (fun _ => ?_) (fun _ => ?_)
    refine sim_gO (by assumption) (fun _ => ?_)
    refine sim_gA (by assumption) (fun _ => ?_)
    refine sim_kO (by assumption) ?_
    refine sim_cV (S_XNodes_spread hO (by assumption) (by assumption)) (fun _ _ _ _ => ?_)
    exact sim_retV (by assumption) (by assumption)
    refine sim_gO (by assumption) (fun _ => ?_)
    refine sim_gA (by assumption) (fun _ => ?_)
    refine sim_gO (by assumption) (fun _ => ?_)
    refine sim_gA (by assumption) (fun _ => ?_)
    refine sim_lI (by assumption) (fun _ => ?_)
    refine sim_kO (by assumption) ?_
    refine sim_cV (S_XNodes_mark hO (by assumption) (by assumption)) (fun _ _ _ _ => ?_)
    refine sim_bI (fun _ => ?_)
    exact ih _ _ _ _ (by assumption) (by assumption)
def G_XProver_markNeeded (O : qOb9) (n : Nat) (l0 : Nat) (S : qS) : Option (Unit × qS) :=
  hk 6 O l0 (
  yV (G_XProver_markInvariants O n l0 S) (fun S1 =>
  G_XProver_markNeeded_6 O n n l0 (0 : Int32) S1))
set_option maxHeartbeats 4000000 in
set_option maxRecDepth 100000 in
theorem S_XProver_markNeeded {O : qOb9} (hO : okO O) {n : Nat} {M0 : PM} {l0 : Nat} {M : PM} {S : qS} (R : Rp O M S) (H : Fm O M0 M) : Sim eV O M0 (F_XProver_markNeeded n l0 M) (G_XProver_markNeeded O n l0 S) := by
  unfold F_XProver_markNeeded G_XProver_markNeeded
  refine sim_kO (by assumption) ?_
  refine sim_cV (S_XProver_markInvariants hO (by assumption) (by assumption)) (fun _ _ _ _ => ?_)
  exact S_XProver_markNeeded_6 hO _ _ _ _ _ (by assumption) (by assumption)
def G_XSearch_addTruth_32 (O : qOb9) (n : Nat) (S : qS) : Option (Unit × qS) :=
  some ((), S)
set_option maxHeartbeats 4000000 in
set_option maxRecDepth 100000 in
theorem S_XSearch_addTruth_32 {O : qOb9} (hO : okO O) {n : Nat} {M0 : PM} {M : PM} {S : qS} (R : Rp O M S) (H : Fm O M0 M) : Sim eV O M0 (F_XSearch_addTruth_32 n M) (G_XSearch_addTruth_32 O n S) := by
  unfold F_XSearch_addTruth_32 G_XSearch_addTruth_32
  exact sim_retV (by assumption) (by assumption)
def G_XSearch_addTruth (O : qOb9) (n : Nat) (l0 : Nat) (l1 : Int32) (S : qS) : Option (Unit × qS) :=
  hI 8 O S l0 10 (fun v1 =>
  hA 8 O l0 3 (fun v2 =>
  hn O v2 (fun v3 =>
  if v3 ≤ v1 then
    G_XSearch_addTruth_32 O n S
  else
    hA 8 O l0 3 (fun v5 =>
    hI 8 O S l0 10 (fun v6 =>
    hw 0 O S v5 v6 l1 (fun S7 =>
    hI 8 O S7 l0 10 (fun v8 =>
    hP 8 O S7 l0 10 ((v8 + (1 : Int32))) (fun S9 =>
    G_XSearch_addTruth_32 O n S9))))))))
set_option maxHeartbeats 4000000 in
set_option maxRecDepth 100000 in
theorem S_XSearch_addTruth {O : qOb9} (hO : okO O) {n : Nat} {M0 : PM} {l0 : Nat} {l1 : Int32} {M : PM} {S : qS} (R : Rp O M S) (H : Fm O M0 M) : Sim eV O M0 (F_XSearch_addTruth n l0 l1 M) (G_XSearch_addTruth O n l0 l1 S) := by
  unfold F_XSearch_addTruth G_XSearch_addTruth
  refine sim_gI (by assumption) (fun _ => ?_)
  refine sim_gA (by assumption) (fun _ => ?_)
  refine sim_aL (by assumption) (fun _ => ?_)
  refine sim_if (fun _ => ?_) (fun _ => ?_)
  exact S_XSearch_addTruth_32 hO (by assumption) (by assumption)
  refine sim_gA (by assumption) (fun _ => ?_)
  refine sim_gI (by assumption) (fun _ => ?_)
  refine sim_wI hO (by assumption) (by assumption) (fun _ _ _ _ => ?_)
  refine sim_gI (by assumption) (fun _ => ?_)
  refine sim_pF (by assumption) (by assumption) (fun _ _ _ _ => ?_)
  exact S_XSearch_addTruth_32 hO (by assumption) (by assumption)
def G_XSearch_addWord_32 (O : qOb9) (n : Nat) (S : qS) : Option (Unit × qS) :=
  some ((), S)
set_option maxHeartbeats 4000000 in
set_option maxRecDepth 100000 in
theorem S_XSearch_addWord_32 {O : qOb9} (hO : okO O) {n : Nat} {M0 : PM} {M : PM} {S : qS} (R : Rp O M S) (H : Fm O M0 M) : Sim eV O M0 (F_XSearch_addWord_32 n M) (G_XSearch_addWord_32 O n S) := by
  unfold F_XSearch_addWord_32 G_XSearch_addWord_32
  exact sim_retV (by assumption) (by assumption)
def G_XSearch_addWord (O : qOb9) (n : Nat) (l0 : Nat) (l1 : Int32) (S : qS) : Option (Unit × qS) :=
  hI 8 O S l0 11 (fun v1 =>
  hA 8 O l0 4 (fun v2 =>
  hn O v2 (fun v3 =>
  if v3 ≤ v1 then
    G_XSearch_addWord_32 O n S
  else
    hA 8 O l0 4 (fun v5 =>
    hI 8 O S l0 11 (fun v6 =>
    hw 0 O S v5 v6 l1 (fun S7 =>
    hI 8 O S7 l0 11 (fun v8 =>
    hP 8 O S7 l0 11 ((v8 + (1 : Int32))) (fun S9 =>
    G_XSearch_addWord_32 O n S9))))))))
set_option maxHeartbeats 4000000 in
set_option maxRecDepth 100000 in
theorem S_XSearch_addWord {O : qOb9} (hO : okO O) {n : Nat} {M0 : PM} {l0 : Nat} {l1 : Int32} {M : PM} {S : qS} (R : Rp O M S) (H : Fm O M0 M) : Sim eV O M0 (F_XSearch_addWord n l0 l1 M) (G_XSearch_addWord O n l0 l1 S) := by
  unfold F_XSearch_addWord G_XSearch_addWord
  refine sim_gI (by assumption) (fun _ => ?_)
  refine sim_gA (by assumption) (fun _ => ?_)
  refine sim_aL (by assumption) (fun _ => ?_)
  refine sim_if (fun _ => ?_) (fun _ => ?_)
  exact S_XSearch_addWord_32 hO (by assumption) (by assumption)
  refine sim_gA (by assumption) (fun _ => ?_)
  refine sim_gI (by assumption) (fun _ => ?_)
  refine sim_wI hO (by assumption) (by assumption) (fun _ _ _ _ => ?_)
  refine sim_gI (by assumption) (fun _ => ?_)
  refine sim_pF (by assumption) (by assumption) (fun _ _ _ _ => ?_)
  exact S_XSearch_addWord_32 hO (by assumption) (by assumption)
def G_XSearch_collectNode_41 (O : qOb9) (n : Nat) (S : qS) : Option (Unit × qS) :=
  some ((), S)
set_option maxHeartbeats 4000000 in
set_option maxRecDepth 100000 in
theorem S_XSearch_collectNode_41 {O : qOb9} (hO : okO O) {n : Nat} {M0 : PM} {M : PM} {S : qS} (R : Rp O M S) (H : Fm O M0 M) : Sim eV O M0 (F_XSearch_collectNode_41 n M) (G_XSearch_collectNode_41 O n S) := by
  unfold F_XSearch_collectNode_41 G_XSearch_collectNode_41
  exact sim_retV (by assumption) (by assumption)
def G_XSearch_collectNode_23 (O : qOb9) (n : Nat) (l0 : Nat) (l1 : Int32) (l2 : Int32) (S : qS) : Option (Unit × qS) :=
  hk 8 O l0 (
  yV (G_XSearch_addWord O n l0 l1 S) (fun S1 =>
  if l2 = (3 : Int32) then
    hI 8 O S1 l0 11 (fun v3 =>
    hP 8 O S1 l0 12 (v3) (fun S4 =>
    G_XSearch_collectNode_41 O n S4))
  else
    G_XSearch_collectNode_41 O n S1))
set_option maxHeartbeats 4000000 in
set_option maxRecDepth 100000 in
theorem S_XSearch_collectNode_23 {O : qOb9} (hO : okO O) {n : Nat} {M0 : PM} {l0 : Nat} {l1 : Int32} {l2 : Int32} {M : PM} {S : qS} (R : Rp O M S) (H : Fm O M0 M) : Sim eV O M0 (F_XSearch_collectNode_23 n l0 l1 l2 M) (G_XSearch_collectNode_23 O n l0 l1 l2 S) := by
  unfold F_XSearch_collectNode_23 G_XSearch_collectNode_23
  refine sim_kO (by assumption) ?_
  refine sim_cV (S_XSearch_addWord hO (by assumption) (by assumption)) (fun _ _ _ _ => ?_)
  refine sim_if (fun _ => ?_) (fun _ => ?_)
  refine sim_gI (by assumption) (fun _ => ?_)
  refine sim_pF (by assumption) (by assumption) (fun _ _ _ _ => ?_)
  exact S_XSearch_collectNode_41 hO (by assumption) (by assumption)
  exact S_XSearch_collectNode_41 hO (by assumption) (by assumption)
def G_XSearch_collectNode (O : qOb9) (n : Nat) (l0 : Nat) (l1 : Int32) (l2 : Int32) (S : qS) : Option (Unit × qS) :=
  if l2 = (4 : Int32) then
    hk 8 O l0 (
    yV (G_XSearch_addTruth O n l0 l1 S) (fun S4 =>
    G_XSearch_collectNode_41 O n S4))
  else
    if l2 = (3 : Int32) then
      G_XSearch_collectNode_23 O n l0 l1 l2 S
    else
      if l2 = (5 : Int32) then
        G_XSearch_collectNode_23 O n l0 l1 l2 S
      else
        G_XSearch_collectNode_41 O n S
set_option maxHeartbeats 4000000 in
set_option maxRecDepth 100000 in
theorem S_XSearch_collectNode {O : qOb9} (hO : okO O) {n : Nat} {M0 : PM} {l0 : Nat} {l1 : Int32} {l2 : Int32} {M : PM} {S : qS} (R : Rp O M S) (H : Fm O M0 M) : Sim eV O M0 (F_XSearch_collectNode n l0 l1 l2 M) (G_XSearch_collectNode O n l0 l1 l2 S) := by
  unfold F_XSearch_collectNode G_XSearch_collectNode
  refine sim_if (fun _ => ?_) (fun _ => ?_)
  refine sim_kO (by assumption) ?_
  refine sim_cV (S_XSearch_addTruth hO (by assumption) (by assumption)) (fun _ _ _ _ => ?_)
  exact S_XSearch_collectNode_41 hO (by assumption) (by assumption)
  refine sim_if (fun _ => ?_) (fun _ => ?_)
  exact S_XSearch_collectNode_23 hO (by assumption) (by assumption)
  refine sim_if (fun _ => ?_) (fun _ => ?_)
  exact S_XSearch_collectNode_23 hO (by assumption) (by assumption)
  exact S_XSearch_collectNode_41 hO (by assumption) (by assumption)
def G_XSearch_collect_48 (O : qOb9) (n : Nat) (rec17 : Nat → (Nat × Nat) → Int32 → qS → Option (Unit × qS)) (l0 : Nat) (l1 : Nat × Nat) (l2 : Int32) (S : qS) : Option (Unit × qS) :=
  hB (l2 + (1 : Int32)) (fun v1 =>
  rec17 l0 l1 v1 S)
set_option maxHeartbeats 4000000 in
set_option maxRecDepth 100000 in
theorem S_XSearch_collect_48 {O : qOb9} (hO : okO O) {n : Nat} {M0 : PM} {rec17 : Nat → Nat → Int32 → PM → qO} {grec17 : Nat → (Nat × Nat) → Int32 → qS → Option (Unit × qS)} (hrec17 : ∀ (l0 : Nat) (l1 : Nat × Nat) (l2 : Int32) (M : PM) (S : qS), Rp O M S → Fm O M0 M → Sim eV O M0 (rec17 l0 (oA O l1.1 l1.2) l2 M) (grec17 l0 l1 l2 S)) {l0 : Nat} {l1 : Nat × Nat} {l2 : Int32} {M : PM} {S : qS} (R : Rp O M S) (H : Fm O M0 M) : Sim eV O M0 (F_XSearch_collect_48 n rec17 l0 (oA O l1.1 l1.2) l2 M) (G_XSearch_collect_48 O n grec17 l0 l1 l2 S) := by
  unfold F_XSearch_collect_48 G_XSearch_collect_48
  refine sim_bI (fun _ => ?_)
  exact hrec17 _ _ _ _ _ (by assumption) (by assumption)
def G_XSearch_collect_65 (O : qOb9) (n : Nat) (S : qS) : Option (Unit × qS) :=
  some ((), S)
set_option maxHeartbeats 4000000 in
set_option maxRecDepth 100000 in
theorem S_XSearch_collect_65 {O : qOb9} (hO : okO O) {n : Nat} {M0 : PM} {M : PM} {S : qS} (R : Rp O M S) (H : Fm O M0 M) : Sim eV O M0 (F_XSearch_collect_65 n M) (G_XSearch_collect_65 O n S) := by
  unfold F_XSearch_collect_65 G_XSearch_collect_65
  exact sim_retV (by assumption) (by assumption)
def G_XSearch_collect_17 (O : qOb9) (n : Nat) : Nat → Nat → (Nat × Nat) → Int32 → qS → Option (Unit × qS)
  | 0, _, _, _, _ => none
  | f + 1, l0, l1, l2, S =>
    hO 8 O l0 0 (fun v1 =>
    hI 3 O S v1 7 (fun v2 =>
    if v2 ≤ l2 then
      hl 1 O S l1 (2 : Int32) (fun v4 =>
      if v4 = (0 : Int32) then
        G_XSearch_collect_65 O n S
      else
        hk 8 O l0 (
        yV (G_XSearch_addTruth O n l0 (2 : Int32) S) (fun S6 =>
        G_XSearch_collect_65 O n S6)))
    else
      hl 1 O S l1 l2 (fun v7 =>
      if v7 = (0 : Int32) then
        G_XSearch_collect_48 O n (G_XSearch_collect_17 O n f) l0 l1 l2 S
      else
        hO 8 O l0 0 (fun v9 =>
        hA 3 O v9 0 (fun v10 =>
        hl 0 O S v10 l2 (fun v11 =>
        hk 8 O l0 (
        yV (G_XSearch_collectNode O n l0 l2 v11 S) (fun S12 =>
        G_XSearch_collect_48 O n (G_XSearch_collect_17 O n f) l0 l1 l2 S12))))))))
set_option maxHeartbeats 4000000 in
set_option maxRecDepth 100000 in
theorem S_XSearch_collect_17 {O : qOb9} (hO : okO O) {n : Nat} {M0 : PM} : ∀ (f : Nat) (l0 : Nat) (l1 : Nat × Nat) (l2 : Int32) (M : PM) (S : qS), Rp O M S → Fm O M0 M → Sim eV O M0 (F_XSearch_collect_17 n f l0 (oA O l1.1 l1.2) l2 M) (G_XSearch_collect_17 O n f l0 l1 l2 S) := by
  intro f
  induction f with
  | zero => intro l0 l1 l2 M S _ _; rw [G_XSearch_collect_17]; exact sim_none
  | succ f ih =>
    intro l0 l1 l2 M S R H
    rw [F_XSearch_collect_17, G_XSearch_collect_17]
    refine sim_gO (by assumption) (fun _ => ?_)
    refine sim_gI (by assumption) (fun _ => ?_)
    refine sim_if (fun _ => ?_) (fun _ => ?_)
    refine sim_lZ (by assumption) (fun _ => ?_)
    refine sim_if (fun _ => ?_) (fun _ => ?_)
    exact S_XSearch_collect_65 hO (by assumption) (by assumption)
    refine sim_kO (by assumption) ?_
    refine sim_cV (S_XSearch_addTruth hO (by assumption) (by assumption)) (fun _ _ _ _ => ?_)
    exact S_XSearch_collect_65 hO (by assumption) (by assumption)
    refine sim_lZ (by assumption) (fun _ => ?_)
    refine sim_if (fun _ => ?_) (fun _ => ?_)
    exact S_XSearch_collect_48 hO ih (by assumption) (by assumption)
    refine sim_gO (by assumption) (fun _ => ?_)
    refine sim_gA (by assumption) (fun _ => ?_)
    refine sim_lI (by assumption) (fun _ => ?_)
    refine sim_kO (by assumption) ?_
    refine sim_cV (S_XSearch_collectNode hO (by assumption) (by assumption)) (fun _ _ _ _ => ?_)
    exact S_XSearch_collect_48 hO ih (by assumption) (by assumption)
def G_XSearch_collect (O : qOb9) (n : Nat) (l0 : Nat) (l1 : Nat × Nat) (S : qS) : Option (Unit × qS) :=
  hP 8 O S l0 10 ((0 : Int32)) (fun S1 =>
  hP 8 O S1 l0 11 ((0 : Int32)) (fun S2 =>
  hP 8 O S2 l0 12 ((0 : Int32)) (fun S3 =>
  G_XSearch_collect_17 O n n l0 l1 (3 : Int32) S3)))
set_option maxHeartbeats 4000000 in
set_option maxRecDepth 100000 in
theorem S_XSearch_collect {O : qOb9} (hO : okO O) {n : Nat} {M0 : PM} {l0 : Nat} {l1 : Nat × Nat} {M : PM} {S : qS} (R : Rp O M S) (H : Fm O M0 M) : Sim eV O M0 (F_XSearch_collect n l0 (oA O l1.1 l1.2) M) (G_XSearch_collect O n l0 l1 S) := by
  unfold F_XSearch_collect G_XSearch_collect
  refine sim_pF (by assumption) (by assumption) (fun _ _ _ _ => ?_)
  refine sim_pF (by assumption) (by assumption) (fun _ _ _ _ => ?_)
  refine sim_pF (by assumption) (by assumption) (fun _ _ _ _ => ?_)
  exact S_XSearch_collect_17 hO _ _ _ _ _ _ (by assumption) (by assumption)
def G_XSearch_levelOf_15 (O : qOb9) (n : Nat) (s0 : Int32) (S : qS) : Option (Int32 × qS) :=
  some (s0, S)
set_option maxHeartbeats 4000000 in
set_option maxRecDepth 100000 in
theorem S_XSearch_levelOf_15 {O : qOb9} (hO : okO O) {n : Nat} {M0 : PM} {s0 : Int32} {M : PM} {S : qS} (R : Rp O M S) (H : Fm O M0 M) : Sim eI O M0 (F_XSearch_levelOf_15 n s0 M) (G_XSearch_levelOf_15 O n s0 S) := by
  unfold F_XSearch_levelOf_15 G_XSearch_levelOf_15
  exact sim_retI (by assumption) (by assumption)
def G_XSearch_levelOf (O : qOb9) (n : Nat) (l0 : Nat) (l1 : Int32) (S : qS) : Option (Int32 × qS) :=
  if l1 = (-1 : Int32) then
    G_XSearch_levelOf_15 O n (0 : Int32) S
  else
    hA 8 O l0 6 (fun v2 =>
    hl 0 O S v2 l1 (fun v3 =>
    G_XSearch_levelOf_15 O n v3 S))
set_option maxHeartbeats 4000000 in
set_option maxRecDepth 100000 in
theorem S_XSearch_levelOf {O : qOb9} (hO : okO O) {n : Nat} {M0 : PM} {l0 : Nat} {l1 : Int32} {M : PM} {S : qS} (R : Rp O M S) (H : Fm O M0 M) : Sim eI O M0 (F_XSearch_levelOf n l0 l1 M) (G_XSearch_levelOf O n l0 l1 S) := by
  unfold F_XSearch_levelOf G_XSearch_levelOf
  refine sim_if (fun _ => ?_) (fun _ => ?_)
  exact S_XSearch_levelOf_15 hO (by assumption) (by assumption)
  refine sim_gA (by assumption) (fun _ => ?_)
  refine sim_lI (by assumption) (fun _ => ?_)
  exact S_XSearch_levelOf_15 hO (by assumption) (by assumption)
def G_XSearch_levelOfParts (O : qOb9) (n : Nat) (l0 : Nat) (l1 : Int32) (S : qS) : Option (Int32 × qS) :=
  hO 8 O l0 0 (fun v1 =>
  hA 3 O v1 1 (fun v2 =>
  hl 0 O S v2 l1 (fun v3 =>
  hk 8 O l0 (
  yC (G_XSearch_levelOf O n l0 v3 S) (fun v5 S4 =>
  hO 8 O l0 0 (fun v6 =>
  hA 3 O v6 2 (fun v7 =>
  hl 0 O S4 v7 l1 (fun v8 =>
  hk 8 O l0 (
  yC (G_XSearch_levelOf O n l0 v8 S4) (fun v10 S9 =>
  hB (if v5 < v10 then v10 else v5) (fun v11 =>
  hO 8 O l0 0 (fun v12 =>
  hA 3 O v12 3 (fun v13 =>
  hl 0 O S9 v13 l1 (fun v14 =>
  hk 8 O l0 (
  yC (G_XSearch_levelOf O n l0 v14 S9) (fun v16 S15 =>
  hB (if v11 < v16 then v16 else v11) (fun v17 =>
  some (v17, S15))))))))))))))))))
set_option maxHeartbeats 4000000 in
set_option maxRecDepth 100000 in
theorem S_XSearch_levelOfParts {O : qOb9} (hO : okO O) {n : Nat} {M0 : PM} {l0 : Nat} {l1 : Int32} {M : PM} {S : qS} (R : Rp O M S) (H : Fm O M0 M) : Sim eI O M0 (F_XSearch_levelOfParts n l0 l1 M) (G_XSearch_levelOfParts O n l0 l1 S) := by
  unfold F_XSearch_levelOfParts G_XSearch_levelOfParts
  refine sim_gO (by assumption) (fun _ => ?_)
  refine sim_gA (by assumption) (fun _ => ?_)
  refine sim_lI (by assumption) (fun _ => ?_)
  refine sim_kO (by assumption) ?_
  refine sim_cI (S_XSearch_levelOf hO (by assumption) (by assumption)) (fun _ _ _ _ _ => ?_)
  refine sim_gO (by assumption) (fun _ => ?_)
  refine sim_gA (by assumption) (fun _ => ?_)
  refine sim_lI (by assumption) (fun _ => ?_)
  refine sim_kO (by assumption) ?_
  refine sim_cI (S_XSearch_levelOf hO (by assumption) (by assumption)) (fun _ _ _ _ _ => ?_)
  refine sim_bI (fun _ => ?_)
  refine sim_gO (by assumption) (fun _ => ?_)
  refine sim_gA (by assumption) (fun _ => ?_)
  refine sim_lI (by assumption) (fun _ => ?_)
  refine sim_kO (by assumption) ?_
  refine sim_cI (S_XSearch_levelOf hO (by assumption) (by assumption)) (fun _ _ _ _ _ => ?_)
  refine sim_bI (fun _ => ?_)
  exact sim_retI (by assumption) (by assumption)
def G_XSearch_setLevels_78 (O : qOb9) (n : Nat) (rec4 : Nat → (Nat × Nat) → Int32 → Int32 → qS → Option (Unit × qS)) (l0 : Nat) (l1 : Nat × Nat) (l2 : Int32) (l3 : Int32) (S : qS) : Option (Unit × qS) :=
  hB (l3 + (1 : Int32)) (fun v1 =>
  rec4 l0 l1 l2 v1 S)
set_option maxHeartbeats 4000000 in
set_option maxRecDepth 100000 in
theorem S_XSearch_setLevels_78 {O : qOb9} (hO : okO O) {n : Nat} {M0 : PM} {rec4 : Nat → Nat → Int32 → Int32 → PM → qO} {grec4 : Nat → (Nat × Nat) → Int32 → Int32 → qS → Option (Unit × qS)} (hrec4 : ∀ (l0 : Nat) (l1 : Nat × Nat) (l2 : Int32) (l3 : Int32) (M : PM) (S : qS), Rp O M S → Fm O M0 M → Sim eV O M0 (rec4 l0 (oA O l1.1 l1.2) l2 l3 M) (grec4 l0 l1 l2 l3 S)) {l0 : Nat} {l1 : Nat × Nat} {l2 : Int32} {l3 : Int32} {M : PM} {S : qS} (R : Rp O M S) (H : Fm O M0 M) : Sim eV O M0 (F_XSearch_setLevels_78 n rec4 l0 (oA O l1.1 l1.2) l2 l3 M) (G_XSearch_setLevels_78 O n grec4 l0 l1 l2 l3 S) := by
  unfold F_XSearch_setLevels_78 G_XSearch_setLevels_78
  refine sim_bI (fun _ => ?_)
  exact hrec4 _ _ _ _ _ _ (by assumption) (by assumption)
def G_XSearch_setLevels_44 (O : qOb9) (n : Nat) (rec4 : Nat → (Nat × Nat) → Int32 → Int32 → qS → Option (Unit × qS)) (l0 : Nat) (l1 : Nat × Nat) (l2 : Int32) (l3 : Int32) (S : qS) : Option (Unit × qS) :=
  hB (l2 + (1 : Int32)) (fun v1 =>
  hA 8 O l0 6 (fun v2 =>
  hw 0 O S v2 l3 v1 (fun S3 =>
  G_XSearch_setLevels_78 O n rec4 l0 l1 v1 l3 S3)))
set_option maxHeartbeats 4000000 in
set_option maxRecDepth 100000 in
theorem S_XSearch_setLevels_44 {O : qOb9} (hO : okO O) {n : Nat} {M0 : PM} {rec4 : Nat → Nat → Int32 → Int32 → PM → qO} {grec4 : Nat → (Nat × Nat) → Int32 → Int32 → qS → Option (Unit × qS)} (hrec4 : ∀ (l0 : Nat) (l1 : Nat × Nat) (l2 : Int32) (l3 : Int32) (M : PM) (S : qS), Rp O M S → Fm O M0 M → Sim eV O M0 (rec4 l0 (oA O l1.1 l1.2) l2 l3 M) (grec4 l0 l1 l2 l3 S)) {l0 : Nat} {l1 : Nat × Nat} {l2 : Int32} {l3 : Int32} {M : PM} {S : qS} (R : Rp O M S) (H : Fm O M0 M) : Sim eV O M0 (F_XSearch_setLevels_44 n rec4 l0 (oA O l1.1 l1.2) l2 l3 M) (G_XSearch_setLevels_44 O n grec4 l0 l1 l2 l3 S) := by
  unfold F_XSearch_setLevels_44 G_XSearch_setLevels_44
  refine sim_bI (fun _ => ?_)
  refine sim_gA (by assumption) (fun _ => ?_)
  refine sim_wI hO (by assumption) (by assumption) (fun _ _ _ _ => ?_)
  exact S_XSearch_setLevels_78 hO hrec4 (by assumption) (by assumption)
def G_XSearch_setLevels_77 (O : qOb9) (n : Nat) (rec4 : Nat → (Nat × Nat) → Int32 → Int32 → qS → Option (Unit × qS)) (l0 : Nat) (l1 : Nat × Nat) (l2 : Int32) (l3 : Int32) (s0 : Nat × Nat) (s1 : Int32) (s2 : Int32) (S : qS) : Option (Unit × qS) :=
  hw 0 O S s0 s1 s2 (fun S1 =>
  G_XSearch_setLevels_78 O n rec4 l0 l1 l2 l3 S1)
set_option maxHeartbeats 4000000 in
set_option maxRecDepth 100000 in
theorem S_XSearch_setLevels_77 {O : qOb9} (hO : okO O) {n : Nat} {M0 : PM} {rec4 : Nat → Nat → Int32 → Int32 → PM → qO} {grec4 : Nat → (Nat × Nat) → Int32 → Int32 → qS → Option (Unit × qS)} (hrec4 : ∀ (l0 : Nat) (l1 : Nat × Nat) (l2 : Int32) (l3 : Int32) (M : PM) (S : qS), Rp O M S → Fm O M0 M → Sim eV O M0 (rec4 l0 (oA O l1.1 l1.2) l2 l3 M) (grec4 l0 l1 l2 l3 S)) {l0 : Nat} {l1 : Nat × Nat} {l2 : Int32} {l3 : Int32} {s0 : Nat × Nat} {s1 : Int32} {s2 : Int32} {M : PM} {S : qS} (R : Rp O M S) (H : Fm O M0 M) : Sim eV O M0 (F_XSearch_setLevels_77 n rec4 l0 (oA O l1.1 l1.2) l2 l3 (oA O s0.1 s0.2) s1 s2 M) (G_XSearch_setLevels_77 O n grec4 l0 l1 l2 l3 s0 s1 s2 S) := by
  unfold F_XSearch_setLevels_77 G_XSearch_setLevels_77
  refine sim_wI hO (by assumption) (by assumption) (fun _ _ _ _ => ?_)
  exact S_XSearch_setLevels_78 hO hrec4 (by assumption) (by assumption)
def G_XSearch_setLevels_4 (O : qOb9) (n : Nat) : Nat → Nat → (Nat × Nat) → Int32 → Int32 → qS → Option (Unit × qS)
  | 0, _, _, _, _, _ => none
  | f + 1, l0, l1, l2, l3, S =>
    hO 8 O l0 0 (fun v1 =>
    hI 3 O S v1 7 (fun v2 =>
    if v2 ≤ l3 then
      some ((), S)
    else
      hl 1 O S l1 l3 (fun v4 =>
      if v4 = (0 : Int32) then
        G_XSearch_setLevels_78 O n (G_XSearch_setLevels_4 O n f) l0 l1 l2 l3 S
      else
        hO 8 O l0 0 (fun v6 =>
        hA 3 O v6 0 (fun v7 =>
        hl 0 O S v7 l3 (fun v8 =>
        if v8 = (3 : Int32) then
          G_XSearch_setLevels_44 O n (G_XSearch_setLevels_4 O n f) l0 l1 l2 l3 S
        else
          if v8 = (5 : Int32) then
            G_XSearch_setLevels_44 O n (G_XSearch_setLevels_4 O n f) l0 l1 l2 l3 S
          else
            hA 8 O l0 6 (fun v11 =>
            if (5 : Int32) ≤ v8 then
              hk 8 O l0 (
              yC (G_XSearch_levelOfParts O n l0 l3 S) (fun v14 S13 =>
              G_XSearch_setLevels_77 O n (G_XSearch_setLevels_4 O n f) l0 l1 l2 l3 v11 l3 v14 S13))
            else
              G_XSearch_setLevels_77 O n (G_XSearch_setLevels_4 O n f) l0 l1 l2 l3 v11 l3 (0 : Int32) S)))))))
set_option maxHeartbeats 4000000 in
set_option maxRecDepth 100000 in
theorem S_XSearch_setLevels_4 {O : qOb9} (hO : okO O) {n : Nat} {M0 : PM} : ∀ (f : Nat) (l0 : Nat) (l1 : Nat × Nat) (l2 : Int32) (l3 : Int32) (M : PM) (S : qS), Rp O M S → Fm O M0 M → Sim eV O M0 (F_XSearch_setLevels_4 n f l0 (oA O l1.1 l1.2) l2 l3 M) (G_XSearch_setLevels_4 O n f l0 l1 l2 l3 S) := by
  intro f
  induction f with
  | zero => intro l0 l1 l2 l3 M S _ _; rw [G_XSearch_setLevels_4]; exact sim_none
  | succ f ih =>
    intro l0 l1 l2 l3 M S R H
    rw [F_XSearch_setLevels_4, G_XSearch_setLevels_4]
    refine sim_gO (by assumption) (fun _ => ?_)
    refine sim_gI (by assumption) (fun _ => ?_)
    refine sim_if (fun _ => ?_) (fun _ => ?_)
    exact sim_retV (by assumption) (by assumption)
    refine sim_lZ (by assumption) (fun _ => ?_)
    refine sim_if (fun _ => ?_) (fun _ => ?_)
    exact S_XSearch_setLevels_78 hO ih (by assumption) (by assumption)
    refine sim_gO (by assumption) (fun _ => ?_)
    refine sim_gA (by assumption) (fun _ => ?_)
    refine sim_lI (by assumption) (fun _ => ?_)
    refine sim_if (fun _ => ?_) (fun _ => ?_)
    exact S_XSearch_setLevels_44 hO ih (by assumption) (by assumption)
    refine sim_if (fun _ => ?_) (fun _ => ?_)
    exact S_XSearch_setLevels_44 hO ih (by assumption) (by assumption)
    refine sim_gA (by assumption) (fun _ => ?_)
    refine sim_if (fun _ => ?_) (fun _ => ?_)
    refine sim_kO (by assumption) ?_
    refine sim_cI (S_XSearch_levelOfParts hO (by assumption) (by assumption)) (fun _ _ _ _ _ => ?_)
    exact S_XSearch_setLevels_77 hO ih (by assumption) (by assumption)
    exact S_XSearch_setLevels_77 hO ih (by assumption) (by assumption)
def G_XSearch_setLevels (O : qOb9) (n : Nat) (l0 : Nat) (l1 : Nat × Nat) (S : qS) : Option (Unit × qS) :=
  G_XSearch_setLevels_4 O n n l0 l1 (0 : Int32) (0 : Int32) S
set_option maxHeartbeats 4000000 in
set_option maxRecDepth 100000 in
theorem S_XSearch_setLevels {O : qOb9} (hO : okO O) {n : Nat} {M0 : PM} {l0 : Nat} {l1 : Nat × Nat} {M : PM} {S : qS} (R : Rp O M S) (H : Fm O M0 M) : Sim eV O M0 (F_XSearch_setLevels n l0 (oA O l1.1 l1.2) M) (G_XSearch_setLevels O n l0 l1 S) := by
  unfold F_XSearch_setLevels G_XSearch_setLevels
  exact S_XSearch_setLevels_4 hO _ _ _ _ _ _ _ (by assumption) (by assumption)
def G_XSearch_arrange_55 (O : qOb9) (n : Nat) (rec10 : Nat → (Nat × Nat) → Int32 → qS → Option (Unit × qS)) (l0 : Nat) (l1 : Nat × Nat) (l2 : Int32) (S : qS) : Option (Unit × qS) :=
  hB (l2 + (1 : Int32)) (fun v1 =>
  rec10 l0 l1 v1 S)
set_option maxHeartbeats 4000000 in
set_option maxRecDepth 100000 in
theorem S_XSearch_arrange_55 {O : qOb9} (hO : okO O) {n : Nat} {M0 : PM} {rec10 : Nat → Nat → Int32 → PM → qO} {grec10 : Nat → (Nat × Nat) → Int32 → qS → Option (Unit × qS)} (hrec10 : ∀ (l0 : Nat) (l1 : Nat × Nat) (l2 : Int32) (M : PM) (S : qS), Rp O M S → Fm O M0 M → Sim eV O M0 (rec10 l0 (oA O l1.1 l1.2) l2 M) (grec10 l0 l1 l2 S)) {l0 : Nat} {l1 : Nat × Nat} {l2 : Int32} {M : PM} {S : qS} (R : Rp O M S) (H : Fm O M0 M) : Sim eV O M0 (F_XSearch_arrange_55 n rec10 l0 (oA O l1.1 l1.2) l2 M) (G_XSearch_arrange_55 O n grec10 l0 l1 l2 S) := by
  unfold F_XSearch_arrange_55 G_XSearch_arrange_55
  refine sim_bI (fun _ => ?_)
  exact hrec10 _ _ _ _ _ (by assumption) (by assumption)
def G_XSearch_arrange_160 (O : qOb9) (n : Nat) (rec105 : Nat → (Nat × Nat) → Int32 → qS → Option (Unit × qS)) (l0 : Nat) (l1 : Nat × Nat) (l2 : Int32) (S : qS) : Option (Unit × qS) :=
  hB (l2 + (-1 : Int32)) (fun v1 =>
  rec105 l0 l1 v1 S)
set_option maxHeartbeats 4000000 in
set_option maxRecDepth 100000 in
theorem S_XSearch_arrange_160 {O : qOb9} (hO : okO O) {n : Nat} {M0 : PM} {rec105 : Nat → Nat → Int32 → PM → qO} {grec105 : Nat → (Nat × Nat) → Int32 → qS → Option (Unit × qS)} (hrec105 : ∀ (l0 : Nat) (l1 : Nat × Nat) (l2 : Int32) (M : PM) (S : qS), Rp O M S → Fm O M0 M → Sim eV O M0 (rec105 l0 (oA O l1.1 l1.2) l2 M) (grec105 l0 l1 l2 S)) {l0 : Nat} {l1 : Nat × Nat} {l2 : Int32} {M : PM} {S : qS} (R : Rp O M S) (H : Fm O M0 M) : Sim eV O M0 (F_XSearch_arrange_160 n rec105 l0 (oA O l1.1 l1.2) l2 M) (G_XSearch_arrange_160 O n grec105 l0 l1 l2 S) := by
  unfold F_XSearch_arrange_160 G_XSearch_arrange_160
  refine sim_bI (fun _ => ?_)
  exact hrec105 _ _ _ _ _ (by assumption) (by assumption)
def G_XSearch_arrange_105 (O : qOb9) (n : Nat) : Nat → Nat → (Nat × Nat) → Int32 → qS → Option (Unit × qS)
  | 0, _, _, _, _ => none
  | f + 1, l0, l1, l2, S =>
    if l2 < (0 : Int32) then
      some ((), S)
    else
      hl 1 O S l1 l2 (fun v2 =>
      if v2 = (0 : Int32) then
        G_XSearch_arrange_160 O n (G_XSearch_arrange_105 O n f) l0 l1 l2 S
      else
        hO 8 O l0 0 (fun v4 =>
        hA 3 O v4 0 (fun v5 =>
        hl 0 O S v5 l2 (fun v6 =>
        if v6 ≤ (5 : Int32) then
          G_XSearch_arrange_160 O n (G_XSearch_arrange_105 O n f) l0 l1 l2 S
        else
          hA 8 O l0 8 (fun v8 =>
          hA 8 O l0 6 (fun v9 =>
          hl 0 O S v9 l2 (fun v10 =>
          hl 0 O S v8 v10 (fun v11 =>
          hw 0 O S v8 v10 (v11 - (1 : Int32)) (fun S12 =>
          hA 8 O l0 7 (fun v13 =>
          hA 8 O l0 8 (fun v14 =>
          hA 8 O l0 6 (fun v15 =>
          hl 0 O S12 v15 l2 (fun v16 =>
          hl 0 O S12 v14 v16 (fun v17 =>
          hw 0 O S12 v13 v17 l2 (fun S18 =>
          G_XSearch_arrange_160 O n (G_XSearch_arrange_105 O n f) l0 l1 l2 S18)))))))))))))))
set_option maxHeartbeats 4000000 in
set_option maxRecDepth 100000 in
theorem S_XSearch_arrange_105 {O : qOb9} (hO : okO O) {n : Nat} {M0 : PM} : ∀ (f : Nat) (l0 : Nat) (l1 : Nat × Nat) (l2 : Int32) (M : PM) (S : qS), Rp O M S → Fm O M0 M → Sim eV O M0 (F_XSearch_arrange_105 n f l0 (oA O l1.1 l1.2) l2 M) (G_XSearch_arrange_105 O n f l0 l1 l2 S) := by
  intro f
  induction f with
  | zero => intro l0 l1 l2 M S _ _; rw [G_XSearch_arrange_105]; exact sim_none
  | succ f ih =>
    intro l0 l1 l2 M S R H
    rw [F_XSearch_arrange_105, G_XSearch_arrange_105]
    refine sim_if (fun _ => ?_) (fun _ => ?_)
    exact sim_retV (by assumption) (by assumption)
    refine sim_lZ (by assumption) (fun _ => ?_)
    refine sim_if (fun _ => ?_) (fun _ => ?_)
    exact S_XSearch_arrange_160 hO ih (by assumption) (by assumption)
    refine sim_gO (by assumption) (fun _ => ?_)
    refine sim_gA (by assumption) (fun _ => ?_)
    refine sim_lI (by assumption) (fun _ => ?_)
    refine sim_if (fun _ => ?_) (fun _ => ?_)
    exact S_XSearch_arrange_160 hO ih (by assumption) (by assumption)
    refine sim_gA (by assumption) (fun _ => ?_)
    refine sim_gA (by assumption) (fun _ => ?_)
    refine sim_lI (by assumption) (fun _ => ?_)
    refine sim_lI (by assumption) (fun _ => ?_)
    refine sim_wI hO (by assumption) (by assumption) (fun _ _ _ _ => ?_)
    refine sim_gA (by assumption) (fun _ => ?_)
    refine sim_gA (by assumption) (fun _ => ?_)
    refine sim_gA (by assumption) (fun _ => ?_)
    refine sim_lI (by assumption) (fun _ => ?_)
    refine sim_lI (by assumption) (fun _ => ?_)
    refine sim_wI hO (by assumption) (by assumption) (fun _ _ _ _ => ?_)
    exact S_XSearch_arrange_160 hO ih (by assumption) (by assumption)
def G_XSearch_arrange_63 (O : qOb9) (n : Nat) : Nat → Nat → (Nat × Nat) → Int32 → qS → Option (Unit × qS)
  | 0, _, _, _, _ => none
  | f + 1, l0, l1, l2, S =>
    hA 8 O l0 8 (fun v1 =>
    hn O v1 (fun v2 =>
    if v2 ≤ l2 then
      hO 8 O l0 0 (fun v4 =>
      hI 3 O S v4 7 (fun v5 =>
      hB (v5 - (1 : Int32)) (fun v6 =>
      G_XSearch_arrange_105 O n n l0 l1 v6 S)))
    else
      hA 8 O l0 8 (fun v7 =>
      hl 0 O S v7 l2 (fun v8 =>
      hA 8 O l0 8 (fun v9 =>
      hl 0 O S v9 (l2 - (1 : Int32)) (fun v10 =>
      hw 0 O S v7 l2 (v8 + v10) (fun S11 =>
      hB (l2 + (1 : Int32)) (fun v12 =>
      (G_XSearch_arrange_63 O n f) l0 l1 v12 S11))))))))
set_option maxHeartbeats 4000000 in
set_option maxRecDepth 100000 in
theorem S_XSearch_arrange_63 {O : qOb9} (hO : okO O) {n : Nat} {M0 : PM} : ∀ (f : Nat) (l0 : Nat) (l1 : Nat × Nat) (l2 : Int32) (M : PM) (S : qS), Rp O M S → Fm O M0 M → Sim eV O M0 (F_XSearch_arrange_63 n f l0 (oA O l1.1 l1.2) l2 M) (G_XSearch_arrange_63 O n f l0 l1 l2 S) := by
  intro f
  induction f with
  | zero => intro l0 l1 l2 M S _ _; rw [G_XSearch_arrange_63]; exact sim_none
  | succ f ih =>
    intro l0 l1 l2 M S R H
    rw [F_XSearch_arrange_63, G_XSearch_arrange_63]
    refine sim_gA (by assumption) (fun _ => ?_)
    refine sim_aL (by assumption) (fun _ => ?_)
    refine sim_if (fun _ => ?_) (fun _ => ?_)
    refine sim_gO (by assumption) (fun _ => ?_)
    refine sim_gI (by assumption) (fun _ => ?_)
    refine sim_bI (fun _ => ?_)
    exact S_XSearch_arrange_105 hO _ _ _ _ _ _ (by assumption) (by assumption)
    refine sim_gA (by assumption) (fun _ => ?_)
    refine sim_lI (by assumption) (fun _ => ?_)
    refine sim_gA (by assumption) (fun _ => ?_)
    refine sim_lI (by assumption) (fun _ => ?_)
    refine sim_wI hO (by assumption) (by assumption) (fun _ _ _ _ => ?_)
    refine sim_bI (fun _ => ?_)
    exact ih _ _ _ _ _ (by assumption) (by assumption)
def G_XSearch_arrange_10 (O : qOb9) (n : Nat) : Nat → Nat → (Nat × Nat) → Int32 → qS → Option (Unit × qS)
  | 0, _, _, _, _ => none
  | f + 1, l0, l1, l2, S =>
    hO 8 O l0 0 (fun v1 =>
    hI 3 O S v1 7 (fun v2 =>
    if v2 ≤ l2 then
      G_XSearch_arrange_63 O n n l0 l1 (1 : Int32) S
    else
      hl 1 O S l1 l2 (fun v4 =>
      if v4 = (0 : Int32) then
        G_XSearch_arrange_55 O n (G_XSearch_arrange_10 O n f) l0 l1 l2 S
      else
        hO 8 O l0 0 (fun v6 =>
        hA 3 O v6 0 (fun v7 =>
        hl 0 O S v7 l2 (fun v8 =>
        if v8 ≤ (5 : Int32) then
          G_XSearch_arrange_55 O n (G_XSearch_arrange_10 O n f) l0 l1 l2 S
        else
          hA 8 O l0 8 (fun v10 =>
          hA 8 O l0 6 (fun v11 =>
          hl 0 O S v11 l2 (fun v12 =>
          hl 0 O S v10 v12 (fun v13 =>
          hw 0 O S v10 v12 (v13 + (1 : Int32)) (fun S14 =>
          G_XSearch_arrange_55 O n (G_XSearch_arrange_10 O n f) l0 l1 l2 S14)))))))))))
set_option maxHeartbeats 4000000 in
set_option maxRecDepth 100000 in
theorem S_XSearch_arrange_10 {O : qOb9} (hO : okO O) {n : Nat} {M0 : PM} : ∀ (f : Nat) (l0 : Nat) (l1 : Nat × Nat) (l2 : Int32) (M : PM) (S : qS), Rp O M S → Fm O M0 M → Sim eV O M0 (F_XSearch_arrange_10 n f l0 (oA O l1.1 l1.2) l2 M) (G_XSearch_arrange_10 O n f l0 l1 l2 S) := by
  intro f
  induction f with
  | zero => intro l0 l1 l2 M S _ _; rw [G_XSearch_arrange_10]; exact sim_none
  | succ f ih =>
    intro l0 l1 l2 M S R H
    rw [F_XSearch_arrange_10, G_XSearch_arrange_10]
    refine sim_gO (by assumption) (fun _ => ?_)
    refine sim_gI (by assumption) (fun _ => ?_)
    refine sim_if (fun _ => ?_) (fun _ => ?_)
    exact S_XSearch_arrange_63 hO _ _ _ _ _ _ (by assumption) (by assumption)
    refine sim_lZ (by assumption) (fun _ => ?_)
    refine sim_if (fun _ => ?_) (fun _ => ?_)
    exact S_XSearch_arrange_55 hO ih (by assumption) (by assumption)
    refine sim_gO (by assumption) (fun _ => ?_)
    refine sim_gA (by assumption) (fun _ => ?_)
    refine sim_lI (by assumption) (fun _ => ?_)
    refine sim_if (fun _ => ?_) (fun _ => ?_)
    exact S_XSearch_arrange_55 hO ih (by assumption) (by assumption)
    refine sim_gA (by assumption) (fun _ => ?_)
    refine sim_gA (by assumption) (fun _ => ?_)
    refine sim_lI (by assumption) (fun _ => ?_)
    refine sim_lI (by assumption) (fun _ => ?_)
    refine sim_wI hO (by assumption) (by assumption) (fun _ _ _ _ => ?_)
    exact S_XSearch_arrange_55 hO ih (by assumption) (by assumption)
def G_XSearch_arrange (O : qOb9) (n : Nat) (l0 : Nat) (l1 : Nat × Nat) (S : qS) : Option (Unit × qS) :=
  hA 8 O l0 8 (fun v1 =>
  yV (G_JArrays_fill O n v1 (0 : Int32) S) (fun S2 =>
  G_XSearch_arrange_10 O n n l0 l1 (0 : Int32) S2))
set_option maxHeartbeats 4000000 in
set_option maxRecDepth 100000 in
theorem S_XSearch_arrange {O : qOb9} (hO : okO O) {n : Nat} {M0 : PM} {l0 : Nat} {l1 : Nat × Nat} {M : PM} {S : qS} (R : Rp O M S) (H : Fm O M0 M) : Sim eV O M0 (F_XSearch_arrange n l0 (oA O l1.1 l1.2) M) (G_XSearch_arrange O n l0 l1 S) := by
  unfold F_XSearch_arrange G_XSearch_arrange
  refine sim_gA (by assumption) (fun _ => ?_)
  refine sim_cV (S_JArrays_fill hO (by assumption) (by assumption)) (fun _ _ _ _ => ?_)
  exact S_XSearch_arrange_10 hO _ _ _ _ _ _ (by assumption) (by assumption)
def G_XSearch_setTruths_22 (O : qOb9) (n : Nat) : Nat → Nat → Int32 → qS → Option (Unit × qS)
  | 0, _, _, _ => none
  | f + 1, l0, l1, S =>
    hI 8 O S l0 10 (fun v1 =>
    if v1 ≤ l1 then
      some ((), S)
    else
      hO 8 O l0 2 (fun v3 =>
      hA 8 O l0 3 (fun v4 =>
      hl 0 O S v4 l1 (fun v5 =>
      hI 8 O S l0 10 (fun v6 =>
      hT ((v6 - (1 : Int32)) - l1) (fun v7 =>
      hk 5 O v3 (
      yV (G_XPlanes_setTruth O n v3 v5 v7 S) (fun S8 =>
      hB (l1 + (1 : Int32)) (fun v9 =>
      (G_XSearch_setTruths_22 O n f) l0 v9 S8)))))))))
set_option maxHeartbeats 4000000 in
set_option maxRecDepth 100000 in
theorem S_XSearch_setTruths_22 {O : qOb9} (hO : okO O) {n : Nat} {M0 : PM} : ∀ (f : Nat) (l0 : Nat) (l1 : Int32) (M : PM) (S : qS), Rp O M S → Fm O M0 M → Sim eV O M0 (F_XSearch_setTruths_22 n f l0 l1 M) (G_XSearch_setTruths_22 O n f l0 l1 S) := by
  intro f
  induction f with
  | zero => intro l0 l1 M S _ _; rw [G_XSearch_setTruths_22]; exact sim_none
  | succ f ih =>
    intro l0 l1 M S R H
    rw [F_XSearch_setTruths_22, G_XSearch_setTruths_22]
    refine sim_gI (by assumption) (fun _ => ?_)
    refine sim_if (fun _ => ?_) (fun _ => ?_)
    exact sim_retV (by assumption) (by assumption)
    refine sim_gO (by assumption) (fun _ => ?_)
    refine sim_gA (by assumption) (fun _ => ?_)
    refine sim_lI (by assumption) (fun _ => ?_)
    refine sim_gI (by assumption) (fun _ => ?_)
    refine sim_tb (fun _ => ?_)
    refine sim_kO (by assumption) ?_
    refine sim_cV (S_XPlanes_setTruth hO (by assumption) (by assumption)) (fun _ _ _ _ => ?_)
    refine sim_bI (fun _ => ?_)
    exact ih _ _ _ _ (by assumption) (by assumption)
def G_XSearch_setTruths (O : qOb9) (n : Nat) (l0 : Nat) (S : qS) : Option (Unit × qS) :=
  hO 8 O l0 2 (fun v1 =>
  hk 5 O v1 (
  yV (G_XPlanes_setTruth O n v1 (0 : Int32) (0 : Int64) S) (fun S2 =>
  hO 8 O l0 2 (fun v3 =>
  hk 5 O v3 (
  yV (G_XPlanes_setTruth O n v3 (1 : Int32) (-1 : Int64) S2) (fun S4 =>
  G_XSearch_setTruths_22 O n n l0 (0 : Int32) S4))))))
set_option maxHeartbeats 4000000 in
set_option maxRecDepth 100000 in
theorem S_XSearch_setTruths {O : qOb9} (hO : okO O) {n : Nat} {M0 : PM} {l0 : Nat} {M : PM} {S : qS} (R : Rp O M S) (H : Fm O M0 M) : Sim eV O M0 (F_XSearch_setTruths n l0 M) (G_XSearch_setTruths O n l0 S) := by
  unfold F_XSearch_setTruths G_XSearch_setTruths
  refine sim_gO (by assumption) (fun _ => ?_)
  refine sim_kO (by assumption) ?_
  refine sim_cV (S_XPlanes_setTruth hO (by assumption) (by assumption)) (fun _ _ _ _ => ?_)
  refine sim_gO (by assumption) (fun _ => ?_)
  refine sim_kO (by assumption) ?_
  refine sim_cV (S_XPlanes_setTruth hO (by assumption) (by assumption)) (fun _ _ _ _ => ?_)
  exact S_XSearch_setTruths_22 hO _ _ _ _ _ (by assumption) (by assumption)
def G_XSearch_reckonLevel_7 (O : qOb9) (n : Nat) : Nat → Nat → Int32 → Int32 → qS → Option (Unit × qS)
  | 0, _, _, _, _ => none
  | f + 1, l0, l1, l2, S =>
    hA 8 O l0 8 (fun v1 =>
    hl 0 O S v1 (l1 + (1 : Int32)) (fun v2 =>
    if v2 ≤ l2 then
      some ((), S)
    else
      hO 8 O l0 2 (fun v4 =>
      hA 8 O l0 7 (fun v5 =>
      hl 0 O S v5 l2 (fun v6 =>
      hk 5 O v4 (
      yV (G_XPlanes_reckon O n v4 v6 S) (fun S7 =>
      hB (l2 + (1 : Int32)) (fun v8 =>
      (G_XSearch_reckonLevel_7 O n f) l0 l1 v8 S7))))))))
set_option maxHeartbeats 4000000 in
set_option maxRecDepth 100000 in
theorem S_XSearch_reckonLevel_7 {O : qOb9} (hO : okO O) {n : Nat} {M0 : PM} : ∀ (f : Nat) (l0 : Nat) (l1 : Int32) (l2 : Int32) (M : PM) (S : qS), Rp O M S → Fm O M0 M → Sim eV O M0 (F_XSearch_reckonLevel_7 n f l0 l1 l2 M) (G_XSearch_reckonLevel_7 O n f l0 l1 l2 S) := by
  intro f
  induction f with
  | zero => intro l0 l1 l2 M S _ _; rw [G_XSearch_reckonLevel_7]; exact sim_none
  | succ f ih =>
    intro l0 l1 l2 M S R H
    rw [F_XSearch_reckonLevel_7, G_XSearch_reckonLevel_7]
    refine sim_gA (by assumption) (fun _ => ?_)
    refine sim_lI (by assumption) (fun _ => ?_)
    refine sim_if (fun _ => ?_) (fun _ => ?_)
    exact sim_retV (by assumption) (by assumption)
    refine sim_gO (by assumption) (fun _ => ?_)
    refine sim_gA (by assumption) (fun _ => ?_)
    refine sim_lI (by assumption) (fun _ => ?_)
    refine sim_kO (by assumption) ?_
    refine sim_cV (S_XPlanes_reckon hO (by assumption) (by assumption)) (fun _ _ _ _ => ?_)
    refine sim_bI (fun _ => ?_)
    exact ih _ _ _ _ _ (by assumption) (by assumption)
def G_XSearch_reckonLevel (O : qOb9) (n : Nat) (l0 : Nat) (l1 : Int32) (S : qS) : Option (Unit × qS) :=
  hA 8 O l0 8 (fun v1 =>
  hl 0 O S v1 l1 (fun v2 =>
  G_XSearch_reckonLevel_7 O n n l0 l1 v2 S))
set_option maxHeartbeats 4000000 in
set_option maxRecDepth 100000 in
theorem S_XSearch_reckonLevel {O : qOb9} (hO : okO O) {n : Nat} {M0 : PM} {l0 : Nat} {l1 : Int32} {M : PM} {S : qS} (R : Rp O M S) (H : Fm O M0 M) : Sim eV O M0 (F_XSearch_reckonLevel n l0 l1 M) (G_XSearch_reckonLevel O n l0 l1 S) := by
  unfold F_XSearch_reckonLevel G_XSearch_reckonLevel
  refine sim_gA (by assumption) (fun _ => ?_)
  refine sim_lI (by assumption) (fun _ => ?_)
  exact S_XSearch_reckonLevel_7 hO _ _ _ _ _ _ (by assumption) (by assumption)
def G_XSearch_statesBelow_17 (O : qOb9) (n : Nat) (s0 : Int64) (S : qS) : Option (Int64 × qS) :=
  some (s0, S)
set_option maxHeartbeats 4000000 in
set_option maxRecDepth 100000 in
theorem S_XSearch_statesBelow_17 {O : qOb9} (hO : okO O) {n : Nat} {M0 : PM} {s0 : Int64} {M : PM} {S : qS} (R : Rp O M S) (H : Fm O M0 M) : Sim eL O M0 (F_XSearch_statesBelow_17 n s0 M) (G_XSearch_statesBelow_17 O n s0 S) := by
  unfold F_XSearch_statesBelow_17 G_XSearch_statesBelow_17
  exact sim_retL (by assumption) (by assumption)
def G_XSearch_statesBelow (O : qOb9) (n : Nat) (l0 : Int32) (S : qS) : Option (Int64 × qS) :=
  if l0 < (64 : Int32) then
    G_XSearch_statesBelow_17 O n (((1 : Int64) <<< (l0.toInt64 &&& 63)) - (1 : Int64)) S
  else
    G_XSearch_statesBelow_17 O n (-1 : Int64) S
set_option maxHeartbeats 4000000 in
set_option maxRecDepth 100000 in
theorem S_XSearch_statesBelow {O : qOb9} (hO : okO O) {n : Nat} {M0 : PM} {l0 : Int32} {M : PM} {S : qS} (R : Rp O M S) (H : Fm O M0 M) : Sim eL O M0 (F_XSearch_statesBelow n l0 M) (G_XSearch_statesBelow O n l0 S) := by
  unfold F_XSearch_statesBelow G_XSearch_statesBelow
  refine sim_if (fun _ => ?_) (fun _ => ?_)
  exact S_XSearch_statesBelow_17 hO (by assumption) (by assumption)
  exact S_XSearch_statesBelow_17 hO (by assumption) (by assumption)
