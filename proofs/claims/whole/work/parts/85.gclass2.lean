def G_XSearch_withInvariants_59 (O : qOb9) (n : Nat) (rec6 : Nat → Int32 → Int64 → Int32 → qS → Option (Int64 × qS)) (l0 : Nat) (l1 : Int32) (l4 : Int64) (l6 : Int32) (S : qS) : Option (Int64 × qS) :=
  hB (l6 + (1 : Int32)) (fun v1 =>
  rec6 l0 l1 l4 v1 S)
set_option maxHeartbeats 4000000 in
set_option maxRecDepth 100000 in
theorem S_XSearch_withInvariants_59 {O : qOb9} (hO : okO O) {n : Nat} {M0 : PM} {rec6 : Nat → Int32 → Int64 → Int32 → PM → qO} {grec6 : Nat → Int32 → Int64 → Int32 → qS → Option (Int64 × qS)} (hrec6 : ∀ (l0 : Nat) (l1 : Int32) (l4 : Int64) (l6 : Int32) (M : PM) (S : qS), Rp O M S → Fm O M0 M → Sim eL O M0 (rec6 l0 l1 l4 l6 M) (grec6 l0 l1 l4 l6 S)) {l0 : Nat} {l1 : Int32} {l4 : Int64} {l6 : Int32} {M : PM} {S : qS} (R : Rp O M S) (H : Fm O M0 M) : Sim eL O M0 (F_XSearch_withInvariants_59 n rec6 l0 l1 l4 l6 M) (G_XSearch_withInvariants_59 O n grec6 l0 l1 l4 l6 S) := by
  unfold F_XSearch_withInvariants_59 G_XSearch_withInvariants_59
  refine sim_bI (fun _ => ?_)
  exact hrec6 _ _ _ _ _ _ (by assumption) (by assumption)
def G_XSearch_withInvariants_6 (O : qOb9) (n : Nat) : Nat → Nat → Int32 → Int64 → Int32 → qS → Option (Int64 × qS)
  | 0, _, _, _, _, _ => none
  | f + 1, l0, l1, l4, l6, S =>
    hO 8 O l0 1 (fun v1 =>
    hI 7 O S v1 3 (fun v2 =>
    if v2 ≤ l6 then
      some (l4, S)
    else
      hA 8 O l0 6 (fun v4 =>
      hO 8 O l0 1 (fun v5 =>
      hA 7 O v5 0 (fun v6 =>
      hl 0 O S v6 l6 (fun v7 =>
      hl 0 O S v4 v7 (fun v8 =>
      if v8 = l1 then
        hO 8 O l0 2 (fun v10 =>
        hO 8 O l0 1 (fun v11 =>
        hA 7 O v11 0 (fun v12 =>
        hl 0 O S v12 l6 (fun v13 =>
        hk 5 O v10 (
        yC (G_XPlanes_truthOf O n v10 v13 S) (fun v15 S14 =>
        hB (l4 &&& v15) (fun v16 =>
        G_XSearch_withInvariants_59 O n (G_XSearch_withInvariants_6 O n f) l0 l1 v16 l6 S14)))))))
      else
        G_XSearch_withInvariants_59 O n (G_XSearch_withInvariants_6 O n f) l0 l1 l4 l6 S)))))))
set_option maxHeartbeats 4000000 in
set_option maxRecDepth 100000 in
theorem S_XSearch_withInvariants_6 {O : qOb9} (hO : okO O) {n : Nat} {M0 : PM} : ∀ (f : Nat) (l0 : Nat) (l1 : Int32) (l4 : Int64) (l6 : Int32) (M : PM) (S : qS), Rp O M S → Fm O M0 M → Sim eL O M0 (F_XSearch_withInvariants_6 n f l0 l1 l4 l6 M) (G_XSearch_withInvariants_6 O n f l0 l1 l4 l6 S) := by
  intro f
  induction f with
  | zero => intro l0 l1 l4 l6 M S _ _; rw [G_XSearch_withInvariants_6]; exact sim_none
  | succ f ih =>
    intro l0 l1 l4 l6 M S R H
    rw [F_XSearch_withInvariants_6, G_XSearch_withInvariants_6]
    refine sim_gO (by assumption) (fun _ => ?_)
    refine sim_gI (by assumption) (fun _ => ?_)
    refine sim_if (fun _ => ?_) (fun _ => ?_)
    exact sim_retL (by assumption) (by assumption)
    refine sim_gA (by assumption) (fun _ => ?_)
    refine sim_gO (by assumption) (fun _ => ?_)
    refine sim_gA (by assumption) (fun _ => ?_)
    refine sim_lI (by assumption) (fun _ => ?_)
    refine sim_lI (by assumption) (fun _ => ?_)
    refine sim_if (fun _ => ?_) (fun _ => ?_)
    refine sim_gO (by assumption) (fun _ => ?_)
    refine sim_gO (by assumption) (fun _ => ?_)
    refine sim_gA (by assumption) (fun _ => ?_)
    refine sim_lI (by assumption) (fun _ => ?_)
    refine sim_kO (by assumption) ?_
    refine sim_cL (S_XPlanes_truthOf hO (by assumption) (by assumption)) (fun _ _ _ _ _ => ?_)
    refine sim_bL (fun _ => ?_)
    exact S_XSearch_withInvariants_59 hO ih (by assumption) (by assumption)
    exact S_XSearch_withInvariants_59 hO ih (by assumption) (by assumption)
def G_XSearch_withInvariants (O : qOb9) (n : Nat) (l0 : Nat) (l1 : Int32) (l2 : Int64) (S : qS) : Option (Int64 × qS) :=
  G_XSearch_withInvariants_6 O n n l0 l1 l2 (0 : Int32) S
set_option maxHeartbeats 4000000 in
set_option maxRecDepth 100000 in
theorem S_XSearch_withInvariants {O : qOb9} (hO : okO O) {n : Nat} {M0 : PM} {l0 : Nat} {l1 : Int32} {l2 : Int64} {M : PM} {S : qS} (R : Rp O M S) (H : Fm O M0 M) : Sim eL O M0 (F_XSearch_withInvariants n l0 l1 l2 M) (G_XSearch_withInvariants O n l0 l1 l2 S) := by
  unfold F_XSearch_withInvariants G_XSearch_withInvariants
  exact S_XSearch_withInvariants_6 hO _ _ _ _ _ _ _ (by assumption) (by assumption)
def G_JLong_bitCount (O : qOb9) (n : Nat) (l0 : Int64) (S : qS) : Option (Int32 × qS) :=
  hB (l0 - (((l0.toUInt64 >>> ((1 : Int32).toInt64.toUInt64 &&& Int64.toUInt64 63)).toInt64) &&& (6148914691236517205 : Int64))) (fun v1 =>
  hB ((v1 &&& (3689348814741910323 : Int64)) + (((v1.toUInt64 >>> ((2 : Int32).toInt64.toUInt64 &&& Int64.toUInt64 63)).toInt64) &&& (3689348814741910323 : Int64))) (fun v2 =>
  hB ((v2 + ((v2.toUInt64 >>> ((4 : Int32).toInt64.toUInt64 &&& Int64.toUInt64 63)).toInt64)) &&& (1085102592571150095 : Int64)) (fun v3 =>
  hB (v3 + ((v3.toUInt64 >>> ((8 : Int32).toInt64.toUInt64 &&& Int64.toUInt64 63)).toInt64)) (fun v4 =>
  hB (v4 + ((v4.toUInt64 >>> ((16 : Int32).toInt64.toUInt64 &&& Int64.toUInt64 63)).toInt64)) (fun v5 =>
  hB (v5 + ((v5.toUInt64 >>> ((32 : Int32).toInt64.toUInt64 &&& Int64.toUInt64 63)).toInt64)) (fun v6 =>
  some ((v6.toInt32 &&& (127 : Int32)), S)))))))
set_option maxHeartbeats 4000000 in
set_option maxRecDepth 100000 in
theorem S_JLong_bitCount {O : qOb9} (hO : okO O) {n : Nat} {M0 : PM} {l0 : Int64} {M : PM} {S : qS} (R : Rp O M S) (H : Fm O M0 M) : Sim eI O M0 (F_JLong_bitCount n l0 M) (G_JLong_bitCount O n l0 S) := by
  unfold F_JLong_bitCount G_JLong_bitCount
  refine sim_bL (fun _ => ?_)
  refine sim_bL (fun _ => ?_)
  refine sim_bL (fun _ => ?_)
  refine sim_bL (fun _ => ?_)
  refine sim_bL (fun _ => ?_)
  refine sim_bL (fun _ => ?_)
  exact sim_retI (by assumption) (by assumption)
def G_XSearch_lowestClaim_2 (O : qOb9) (n : Nat) : Nat → Nat → Int32 → Int32 → qS → Option (Int32 × qS)
  | 0, _, _, _, _ => none
  | f + 1, l0, l1, l2, S =>
    hO 8 O l0 1 (fun v1 =>
    hI 7 O S v1 4 (fun v2 =>
    if v2 ≤ l2 then
      hO 8 O l0 1 (fun v4 =>
      hI 7 O S v4 4 (fun v5 =>
      some ((v5 - (1 : Int32)), S)))
    else
      hO 8 O l0 2 (fun v6 =>
      hO 8 O l0 1 (fun v7 =>
      hA 7 O v7 1 (fun v8 =>
      hl 0 O S v8 l2 (fun v9 =>
      hk 5 O v6 (
      yC (G_XPlanes_truthOf O n v6 v9 S) (fun v11 S10 =>
      if (lg_cmp (((v11.toUInt64 >>> (l1.toInt64.toUInt64 &&& Int64.toUInt64 63)).toInt64) &&& (1 : Int64)) (1 : Int64)) = (0 : Int32) then
        some (l2, S10)
      else
        hB (l2 + (1 : Int32)) (fun v13 =>
        (G_XSearch_lowestClaim_2 O n f) l0 l1 v13 S10)))))))))
set_option maxHeartbeats 4000000 in
set_option maxRecDepth 100000 in
theorem S_XSearch_lowestClaim_2 {O : qOb9} (hO : okO O) {n : Nat} {M0 : PM} : ∀ (f : Nat) (l0 : Nat) (l1 : Int32) (l2 : Int32) (M : PM) (S : qS), Rp O M S → Fm O M0 M → Sim eI O M0 (F_XSearch_lowestClaim_2 n f l0 l1 l2 M) (G_XSearch_lowestClaim_2 O n f l0 l1 l2 S) := by
  intro f
  induction f with
  | zero => intro l0 l1 l2 M S _ _; rw [G_XSearch_lowestClaim_2]; exact sim_none
  | succ f ih =>
    intro l0 l1 l2 M S R H
    rw [F_XSearch_lowestClaim_2, G_XSearch_lowestClaim_2]
    refine sim_gO (by assumption) (fun _ => ?_)
    refine sim_gI (by assumption) (fun _ => ?_)
    refine sim_if (fun _ => ?_) (fun _ => ?_)
    refine sim_gO (by assumption) (fun _ => ?_)
    refine sim_gI (by assumption) (fun _ => ?_)
    exact sim_retI (by assumption) (by assumption)
    refine sim_gO (by assumption) (fun _ => ?_)
    refine sim_gO (by assumption) (fun _ => ?_)
    refine sim_gA (by assumption) (fun _ => ?_)
    refine sim_lI (by assumption) (fun _ => ?_)
    refine sim_kO (by assumption) ?_
    refine sim_cL (S_XPlanes_truthOf hO (by assumption) (by assumption)) (fun _ _ _ _ _ => ?_)
    refine sim_if (fun _ => ?_) (fun _ => ?_)
    exact sim_retI (by assumption) (by assumption)
    refine sim_bI (fun _ => ?_)
    exact ih _ _ _ _ _ (by assumption) (by assumption)
def G_XSearch_lowestClaim (O : qOb9) (n : Nat) (l0 : Nat) (l1 : Int32) (S : qS) : Option (Int32 × qS) :=
  G_XSearch_lowestClaim_2 O n n l0 l1 (0 : Int32) S
set_option maxHeartbeats 4000000 in
set_option maxRecDepth 100000 in
theorem S_XSearch_lowestClaim {O : qOb9} (hO : okO O) {n : Nat} {M0 : PM} {l0 : Nat} {l1 : Int32} {M : PM} {S : qS} (R : Rp O M S) (H : Fm O M0 M) : Sim eI O M0 (F_XSearch_lowestClaim n l0 l1 M) (G_XSearch_lowestClaim O n l0 l1 S) := by
  unfold F_XSearch_lowestClaim G_XSearch_lowestClaim
  exact S_XSearch_lowestClaim_2 hO _ _ _ _ _ _ (by assumption) (by assumption)
def G_XSearch_look_129 (O : qOb9) (n : Nat) (S : qS) : Option (Unit × qS) :=
  some ((), S)
set_option maxHeartbeats 4000000 in
set_option maxRecDepth 100000 in
theorem S_XSearch_look_129 {O : qOb9} (hO : okO O) {n : Nat} {M0 : PM} {M : PM} {S : qS} (R : Rp O M S) (H : Fm O M0 M) : Sim eV O M0 (F_XSearch_look_129 n M) (G_XSearch_look_129 O n S) := by
  unfold F_XSearch_look_129 G_XSearch_look_129
  exact sim_retV (by assumption) (by assumption)
def G_XSearch_look_100 (O : qOb9) (n : Nat) (l0 : Nat) (l5 : Int32) (l6 : Int32) (S : qS) : Option (Unit × qS) :=
  hP 8 O S l0 13 (l5) (fun S1 =>
  hP 8 O S1 l0 14 (l6) (fun S2 =>
  hA 8 O l0 5 (fun v3 =>
  hA 8 O l0 9 (fun v4 =>
  hI 8 O S2 l0 12 (fun v5 =>
  hcp O S2 v3 (0 : Int32) v4 (0 : Int32) v5 (fun S6 =>
  G_XSearch_look_129 O n S6))))))
set_option maxHeartbeats 4000000 in
set_option maxRecDepth 100000 in
theorem S_XSearch_look_100 {O : qOb9} (hO : okO O) {n : Nat} {M0 : PM} {l0 : Nat} {l5 : Int32} {l6 : Int32} {M : PM} {S : qS} (R : Rp O M S) (H : Fm O M0 M) : Sim eV O M0 (F_XSearch_look_100 n l0 l5 l6 M) (G_XSearch_look_100 O n l0 l5 l6 S) := by
  unfold F_XSearch_look_100 G_XSearch_look_100
  refine sim_pF (by assumption) (by assumption) (fun _ _ _ _ => ?_)
  refine sim_pF (by assumption) (by assumption) (fun _ _ _ _ => ?_)
  refine sim_gA (by assumption) (fun _ => ?_)
  refine sim_gA (by assumption) (fun _ => ?_)
  refine sim_gI (by assumption) (fun _ => ?_)
  refine sim_cp hO (by assumption) (by assumption) (fun _ _ _ _ => ?_)
  exact S_XSearch_look_129 hO (by assumption) (by assumption)
def G_XSearch_look_5 (O : qOb9) (n : Nat) : Nat → Nat → Int64 → Int64 → Int32 → qS → Option (Unit × qS)
  | 0, _, _, _, _, _ => none
  | f + 1, l0, l1, l3, l5, S =>
    hO 8 O l0 1 (fun v1 =>
    hI 7 O S v1 4 (fun v2 =>
    if v2 ≤ l5 then
      hB (l3 &&& l1) (fun v4 =>
      if (lg_cmp v4 (0 : Int64)) = (0 : Int32) then
        some ((), S)
      else
        yC (G_JLong_bitCount O n ((v4 &&& (-v4)) - (1 : Int64)) S) (fun v7 S6 =>
        hk 8 O l0 (
        yC (G_XSearch_lowestClaim O n l0 v7 S6) (fun v9 S8 =>
        hI 8 O S8 l0 13 (fun v10 =>
        if v7 < v10 then
          G_XSearch_look_100 O n l0 v7 v9 S8
        else
          hI 8 O S8 l0 13 (fun v12 =>
          if v7 = v12 then
            hI 8 O S8 l0 14 (fun v14 =>
            if v14 ≤ v9 then
              G_XSearch_look_129 O n S8
            else
              G_XSearch_look_100 O n l0 v7 v9 S8)
          else
            G_XSearch_look_129 O n S8))))))
    else
      hO 8 O l0 2 (fun v16 =>
      hO 8 O l0 1 (fun v17 =>
      hA 7 O v17 1 (fun v18 =>
      hl 0 O S v18 l5 (fun v19 =>
      hk 5 O v16 (
      yC (G_XPlanes_truthOf O n v16 v19 S) (fun v21 S20 =>
      hB (l3 ||| v21) (fun v22 =>
      hB (l5 + (1 : Int32)) (fun v23 =>
      (G_XSearch_look_5 O n f) l0 l1 v22 v23 S20))))))))))
set_option maxHeartbeats 4000000 in
set_option maxRecDepth 100000 in
theorem S_XSearch_look_5 {O : qOb9} (hO : okO O) {n : Nat} {M0 : PM} : ∀ (f : Nat) (l0 : Nat) (l1 : Int64) (l3 : Int64) (l5 : Int32) (M : PM) (S : qS), Rp O M S → Fm O M0 M → Sim eV O M0 (F_XSearch_look_5 n f l0 l1 l3 l5 M) (G_XSearch_look_5 O n f l0 l1 l3 l5 S) := by
  intro f
  induction f with
  | zero => intro l0 l1 l3 l5 M S _ _; rw [G_XSearch_look_5]; exact sim_none
  | succ f ih =>
    intro l0 l1 l3 l5 M S R H
    rw [F_XSearch_look_5, G_XSearch_look_5]
    refine sim_gO (by assumption) (fun _ => ?_)
    refine sim_gI (by assumption) (fun _ => ?_)
    refine sim_if (fun _ => ?_) (fun _ => ?_)
    refine sim_bL (fun _ => ?_)
    refine sim_if (fun _ => ?_) (fun _ => ?_)
    exact sim_retV (by assumption) (by assumption)
    refine sim_cI (S_JLong_bitCount hO (by assumption) (by assumption)) (fun _ _ _ _ _ => ?_)
    refine sim_kO (by assumption) ?_
    refine sim_cI (S_XSearch_lowestClaim hO (by assumption) (by assumption)) (fun _ _ _ _ _ => ?_)
    refine sim_gI (by assumption) (fun _ => ?_)
    refine sim_if (fun _ => ?_) (fun _ => ?_)
    exact S_XSearch_look_100 hO (by assumption) (by assumption)
    refine sim_gI (by assumption) (fun _ => ?_)
    refine sim_if (fun _ => ?_) (fun _ => ?_)
    refine sim_gI (by assumption) (fun _ => ?_)
    refine sim_if (fun _ => ?_) (fun _ => ?_)
    exact S_XSearch_look_129 hO (by assumption) (by assumption)
    exact S_XSearch_look_100 hO (by assumption) (by assumption)
    exact S_XSearch_look_129 hO (by assumption) (by assumption)
    refine sim_gO (by assumption) (fun _ => ?_)
    refine sim_gO (by assumption) (fun _ => ?_)
    refine sim_gA (by assumption) (fun _ => ?_)
    refine sim_lI (by assumption) (fun _ => ?_)
    refine sim_kO (by assumption) ?_
    refine sim_cL (S_XPlanes_truthOf hO (by assumption) (by assumption)) (fun _ _ _ _ _ => ?_)
    refine sim_bL (fun _ => ?_)
    refine sim_bI (fun _ => ?_)
    exact ih _ _ _ _ _ _ (by assumption) (by assumption)
def G_XSearch_look (O : qOb9) (n : Nat) (l0 : Nat) (l1 : Int64) (S : qS) : Option (Unit × qS) :=
  G_XSearch_look_5 O n n l0 l1 (0 : Int64) (0 : Int32) S
set_option maxHeartbeats 4000000 in
set_option maxRecDepth 100000 in
theorem S_XSearch_look {O : qOb9} (hO : okO O) {n : Nat} {M0 : PM} {l0 : Nat} {l1 : Int64} {M : PM} {S : qS} (R : Rp O M S) (H : Fm O M0 M) : Sim eV O M0 (F_XSearch_look n l0 l1 M) (G_XSearch_look O n l0 l1 S) := by
  unfold F_XSearch_look G_XSearch_look
  exact S_XSearch_look_5 hO _ _ _ _ _ _ _ (by assumption) (by assumption)
def G_XSearch_statesOfUse_38 (O : qOb9) (n : Nat) (s0 : Int32) (S : qS) : Option (Int64 × qS) :=
  yC (G_XSearch_statesBelow O n s0 S) (fun v2 S1 =>
  some (v2, S1))
set_option maxHeartbeats 4000000 in
set_option maxRecDepth 100000 in
theorem S_XSearch_statesOfUse_38 {O : qOb9} (hO : okO O) {n : Nat} {M0 : PM} {s0 : Int32} {M : PM} {S : qS} (R : Rp O M S) (H : Fm O M0 M) : Sim eL O M0 (F_XSearch_statesOfUse_38 n s0 M) (G_XSearch_statesOfUse_38 O n s0 S) := by
  unfold F_XSearch_statesOfUse_38 G_XSearch_statesOfUse_38
  refine sim_cL (S_XSearch_statesBelow hO (by assumption) (by assumption)) (fun _ _ _ _ _ => ?_)
  exact sim_retL (by assumption) (by assumption)
def G_XSearch_statesOfUse_34 (O : qOb9) (n : Nat) (l0 : Nat) (S : qS) : Option (Int64 × qS) :=
  hI 8 O S l0 13 (fun v1 =>
  G_XSearch_statesOfUse_38 O n v1 S)
set_option maxHeartbeats 4000000 in
set_option maxRecDepth 100000 in
theorem S_XSearch_statesOfUse_34 {O : qOb9} (hO : okO O) {n : Nat} {M0 : PM} {l0 : Nat} {M : PM} {S : qS} (R : Rp O M S) (H : Fm O M0 M) : Sim eL O M0 (F_XSearch_statesOfUse_34 n l0 M) (G_XSearch_statesOfUse_34 O n l0 S) := by
  unfold F_XSearch_statesOfUse_34 G_XSearch_statesOfUse_34
  refine sim_gI (by assumption) (fun _ => ?_)
  exact S_XSearch_statesOfUse_38 hO (by assumption) (by assumption)
def G_XSearch_statesOfUse_13 (O : qOb9) (n : Nat) (l0 : Nat) (s0 : Int32) (S : qS) : Option (Int64 × qS) :=
  if s0 = (0 : Int32) then
    G_XSearch_statesOfUse_34 O n l0 S
  else
    hI 8 O S l0 14 (fun v2 =>
    if v2 ≤ (0 : Int32) then
      G_XSearch_statesOfUse_34 O n l0 S
    else
      hI 8 O S l0 13 (fun v4 =>
      G_XSearch_statesOfUse_38 O n (v4 + (1 : Int32)) S))
set_option maxHeartbeats 4000000 in
set_option maxRecDepth 100000 in
theorem S_XSearch_statesOfUse_13 {O : qOb9} (hO : okO O) {n : Nat} {M0 : PM} {l0 : Nat} {s0 : Int32} {M : PM} {S : qS} (R : Rp O M S) (H : Fm O M0 M) : Sim eL O M0 (F_XSearch_statesOfUse_13 n l0 s0 M) (G_XSearch_statesOfUse_13 O n l0 s0 S) := by
  unfold F_XSearch_statesOfUse_13 G_XSearch_statesOfUse_13
  refine sim_if (fun _ => ?_) (fun _ => ?_)
  exact S_XSearch_statesOfUse_34 hO (by assumption) (by assumption)
  refine sim_gI (by assumption) (fun _ => ?_)
  refine sim_if (fun _ => ?_) (fun _ => ?_)
  exact S_XSearch_statesOfUse_34 hO (by assumption) (by assumption)
  refine sim_gI (by assumption) (fun _ => ?_)
  exact S_XSearch_statesOfUse_38 hO (by assumption) (by assumption)
def G_XSearch_statesOfUse (O : qOb9) (n : Nat) (l0 : Nat) (l1 : Int32) (S : qS) : Option (Int64 × qS) :=
  hI 8 O S l0 12 (fun v1 =>
  if l1 < v1 then
    G_XSearch_statesOfUse_13 O n l0 (0 : Int32) S
  else
    G_XSearch_statesOfUse_13 O n l0 (1 : Int32) S)
set_option maxHeartbeats 4000000 in
set_option maxRecDepth 100000 in
theorem S_XSearch_statesOfUse {O : qOb9} (hO : okO O) {n : Nat} {M0 : PM} {l0 : Nat} {l1 : Int32} {M : PM} {S : qS} (R : Rp O M S) (H : Fm O M0 M) : Sim eL O M0 (F_XSearch_statesOfUse n l0 l1 M) (G_XSearch_statesOfUse O n l0 l1 S) := by
  unfold F_XSearch_statesOfUse G_XSearch_statesOfUse
  refine sim_gI (by assumption) (fun _ => ?_)
  refine sim_if (fun _ => ?_) (fun _ => ?_)
  exact S_XSearch_statesOfUse_13 hO (by assumption) (by assumption)
  exact S_XSearch_statesOfUse_13 hO (by assumption) (by assumption)
def G_XSearch_sameArguments_71 (O : qOb9) (n : Nat) (s0 : Int64) (S : qS) : Option (Int64 × qS) :=
  some (s0, S)
set_option maxHeartbeats 4000000 in
set_option maxRecDepth 100000 in
theorem S_XSearch_sameArguments_71 {O : qOb9} (hO : okO O) {n : Nat} {M0 : PM} {s0 : Int64} {M : PM} {S : qS} (R : Rp O M S) (H : Fm O M0 M) : Sim eL O M0 (F_XSearch_sameArguments_71 n s0 M) (G_XSearch_sameArguments_71 O n s0 S) := by
  unfold F_XSearch_sameArguments_71 G_XSearch_sameArguments_71
  exact sim_retL (by assumption) (by assumption)
def G_XSearch_sameArguments_59 (O : qOb9) (n : Nat) (l3 : Int32) (l4 : Int32) (l5 : Int64) (S : qS) : Option (Int64 × qS) :=
  if l3 = l4 then
    G_XSearch_sameArguments_71 O n l5 S
  else
    G_XSearch_sameArguments_71 O n (0 : Int64) S
set_option maxHeartbeats 4000000 in
set_option maxRecDepth 100000 in
theorem S_XSearch_sameArguments_59 {O : qOb9} (hO : okO O) {n : Nat} {M0 : PM} {l3 : Int32} {l4 : Int32} {l5 : Int64} {M : PM} {S : qS} (R : Rp O M S) (H : Fm O M0 M) : Sim eL O M0 (F_XSearch_sameArguments_59 n l3 l4 l5 M) (G_XSearch_sameArguments_59 O n l3 l4 l5 S) := by
  unfold F_XSearch_sameArguments_59 G_XSearch_sameArguments_59
  refine sim_if (fun _ => ?_) (fun _ => ?_)
  exact S_XSearch_sameArguments_71 hO (by assumption) (by assumption)
  exact S_XSearch_sameArguments_71 hO (by assumption) (by assumption)
def G_XSearch_sameArguments (O : qOb9) (n : Nat) (l0 : Nat) (l1 : Int32) (l2 : Int32) (S : qS) : Option (Int64 × qS) :=
  hO 8 O l0 0 (fun v1 =>
  hA 3 O v1 2 (fun v2 =>
  hl 0 O S v2 l1 (fun v3 =>
  hO 8 O l0 0 (fun v4 =>
  hA 3 O v4 2 (fun v5 =>
  hl 0 O S v5 l2 (fun v6 =>
  hO 8 O l0 2 (fun v7 =>
  hO 8 O l0 0 (fun v8 =>
  hA 3 O v8 1 (fun v9 =>
  hl 0 O S v9 l1 (fun v10 =>
  hO 8 O l0 0 (fun v11 =>
  hA 3 O v11 1 (fun v12 =>
  hl 0 O S v12 l2 (fun v13 =>
  hk 5 O v7 (
  yC (G_XPlanes_same O n v7 v10 v13 S) (fun v15 S14 =>
  if v3 = (-1 : Int32) then
    G_XSearch_sameArguments_59 O n v3 v6 v15 S14
  else
    if v6 = (-1 : Int32) then
      G_XSearch_sameArguments_59 O n v3 v6 v15 S14
    else
      hO 8 O l0 2 (fun v18 =>
      hk 5 O v18 (
      yC (G_XPlanes_same O n v18 v3 v6 S14) (fun v20 S19 =>
      some ((v15 &&& v20), S19)))))))))))))))))))
set_option maxHeartbeats 4000000 in
set_option maxRecDepth 100000 in
theorem S_XSearch_sameArguments {O : qOb9} (hO : okO O) {n : Nat} {M0 : PM} {l0 : Nat} {l1 : Int32} {l2 : Int32} {M : PM} {S : qS} (R : Rp O M S) (H : Fm O M0 M) : Sim eL O M0 (F_XSearch_sameArguments n l0 l1 l2 M) (G_XSearch_sameArguments O n l0 l1 l2 S) := by
  unfold F_XSearch_sameArguments G_XSearch_sameArguments
  refine sim_gO (by assumption) (fun _ => ?_)
  refine sim_gA (by assumption) (fun _ => ?_)
  refine sim_lI (by assumption) (fun _ => ?_)
  refine sim_gO (by assumption) (fun _ => ?_)
  refine sim_gA (by assumption) (fun _ => ?_)
  refine sim_lI (by assumption) (fun _ => ?_)
  refine sim_gO (by assumption) (fun _ => ?_)
  refine sim_gO (by assumption) (fun _ => ?_)
  refine sim_gA (by assumption) (fun _ => ?_)
  refine sim_lI (by assumption) (fun _ => ?_)
  refine sim_gO (by assumption) (fun _ => ?_)
  refine sim_gA (by assumption) (fun _ => ?_)
  refine sim_lI (by assumption) (fun _ => ?_)
  refine sim_kO (by assumption) ?_
  refine sim_cL (S_XPlanes_same hO (by assumption) (by assumption)) (fun _ _ _ _ _ => ?_)
  refine sim_if (fun _ => ?_) (fun _ => ?_)
  exact S_XSearch_sameArguments_59 hO (by assumption) (by assumption)
  refine sim_if (fun _ => ?_) (fun _ => ?_)
  exact S_XSearch_sameArguments_59 hO (by assumption) (by assumption)
  refine sim_gO (by assumption) (fun _ => ?_)
  refine sim_kO (by assumption) ?_
  refine sim_cL (S_XPlanes_same hO (by assumption) (by assumption)) (fun _ _ _ _ _ => ?_)
  exact sim_retL (by assumption) (by assumption)
def G_XSearch_withFunctions_83 (O : qOb9) (n : Nat) (rec17 : Nat → Int32 → Int32 → Int32 → Int64 → Int32 → qS → Option (Int64 × qS)) (l0 : Nat) (l1 : Int32) (l2 : Int32) (l5 : Int32) (l6 : Int64) (l8 : Int32) (S : qS) : Option (Int64 × qS) :=
  hB (l8 + (1 : Int32)) (fun v1 =>
  rec17 l0 l1 l2 l5 l6 v1 S)
set_option maxHeartbeats 4000000 in
set_option maxRecDepth 100000 in
theorem S_XSearch_withFunctions_83 {O : qOb9} (hO : okO O) {n : Nat} {M0 : PM} {rec17 : Nat → Int32 → Int32 → Int32 → Int64 → Int32 → PM → qO} {grec17 : Nat → Int32 → Int32 → Int32 → Int64 → Int32 → qS → Option (Int64 × qS)} (hrec17 : ∀ (l0 : Nat) (l1 : Int32) (l2 : Int32) (l5 : Int32) (l6 : Int64) (l8 : Int32) (M : PM) (S : qS), Rp O M S → Fm O M0 M → Sim eL O M0 (rec17 l0 l1 l2 l5 l6 l8 M) (grec17 l0 l1 l2 l5 l6 l8 S)) {l0 : Nat} {l1 : Int32} {l2 : Int32} {l5 : Int32} {l6 : Int64} {l8 : Int32} {M : PM} {S : qS} (R : Rp O M S) (H : Fm O M0 M) : Sim eL O M0 (F_XSearch_withFunctions_83 n rec17 l0 l1 l2 l5 l6 l8 M) (G_XSearch_withFunctions_83 O n grec17 l0 l1 l2 l5 l6 l8 S) := by
  unfold F_XSearch_withFunctions_83 G_XSearch_withFunctions_83
  refine sim_bI (fun _ => ?_)
  exact hrec17 _ _ _ _ _ _ _ _ (by assumption) (by assumption)
def G_XSearch_withFunctions_17 (O : qOb9) (n : Nat) : Nat → Nat → Int32 → Int32 → Int32 → Int64 → Int32 → qS → Option (Int64 × qS)
  | 0, _, _, _, _, _, _, _ => none
  | f + 1, l0, l1, l2, l5, l6, l8, S =>
    if l1 ≤ l8 then
      some (l6, S)
    else
      hA 8 O l0 4 (fun v2 =>
      hl 0 O S v2 l8 (fun v3 =>
      hA 8 O l0 5 (fun v4 =>
      hl 0 O S v4 l8 (fun v5 =>
      if v5 = l2 then
        G_XSearch_withFunctions_83 O n (G_XSearch_withFunctions_17 O n f) l0 l1 l2 l5 l6 l8 S
      else
        hO 8 O l0 0 (fun v7 =>
        hA 3 O v7 3 (fun v8 =>
        hl 0 O S v8 v3 (fun v9 =>
        hO 8 O l0 0 (fun v10 =>
        hA 3 O v10 3 (fun v11 =>
        hl 0 O S v11 l5 (fun v12 =>
        if v9 = v12 then
          hk 8 O l0 (
          yC (G_XSearch_sameArguments O n l0 l5 v3 S) (fun v15 S14 =>
          hB (l6 &&& (v15 ^^^ (-1 : Int64))) (fun v16 =>
          G_XSearch_withFunctions_83 O n (G_XSearch_withFunctions_17 O n f) l0 l1 l2 l5 v16 l8 S14)))
        else
          G_XSearch_withFunctions_83 O n (G_XSearch_withFunctions_17 O n f) l0 l1 l2 l5 l6 l8 S))))))))))
set_option maxHeartbeats 4000000 in
set_option maxRecDepth 100000 in
theorem S_XSearch_withFunctions_17 {O : qOb9} (hO : okO O) {n : Nat} {M0 : PM} : ∀ (f : Nat) (l0 : Nat) (l1 : Int32) (l2 : Int32) (l5 : Int32) (l6 : Int64) (l8 : Int32) (M : PM) (S : qS), Rp O M S → Fm O M0 M → Sim eL O M0 (F_XSearch_withFunctions_17 n f l0 l1 l2 l5 l6 l8 M) (G_XSearch_withFunctions_17 O n f l0 l1 l2 l5 l6 l8 S) := by
  intro f
  induction f with
  | zero => intro l0 l1 l2 l5 l6 l8 M S _ _; rw [G_XSearch_withFunctions_17]; exact sim_none
  | succ f ih =>
    intro l0 l1 l2 l5 l6 l8 M S R H
    rw [F_XSearch_withFunctions_17, G_XSearch_withFunctions_17]
    refine sim_if (fun _ => ?_) (fun _ => ?_)
    exact sim_retL (by assumption) (by assumption)
    refine sim_gA (by assumption) (fun _ => ?_)
    refine sim_lI (by assumption) (fun _ => ?_)
    refine sim_gA (by assumption) (fun _ => ?_)
    refine sim_lI (by assumption) (fun _ => ?_)
    refine sim_if (fun _ => ?_) (fun _ => ?_)
    exact S_XSearch_withFunctions_83 hO ih (by assumption) (by assumption)
    refine sim_gO (by assumption) (fun _ => ?_)
    refine sim_gA (by assumption) (fun _ => ?_)
    refine sim_lI (by assumption) (fun _ => ?_)
    refine sim_gO (by assumption) (fun _ => ?_)
    refine sim_gA (by assumption) (fun _ => ?_)
    refine sim_lI (by assumption) (fun _ => ?_)
    refine sim_if (fun _ => ?_) (fun _ => ?_)
    refine sim_kO (by assumption) ?_
    refine sim_cL (S_XSearch_sameArguments hO (by assumption) (by assumption)) (fun _ _ _ _ _ => ?_)
    refine sim_bL (fun _ => ?_)
    exact S_XSearch_withFunctions_83 hO ih (by assumption) (by assumption)
    exact S_XSearch_withFunctions_83 hO ih (by assumption) (by assumption)
def G_XSearch_withFunctions (O : qOb9) (n : Nat) (l0 : Nat) (l1 : Int32) (l2 : Int32) (l3 : Int64) (S : qS) : Option (Int64 × qS) :=
  hA 8 O l0 4 (fun v1 =>
  hl 0 O S v1 l1 (fun v2 =>
  hI 8 O S l0 12 (fun v3 =>
  G_XSearch_withFunctions_17 O n n l0 l1 l2 v2 l3 v3 S)))
set_option maxHeartbeats 4000000 in
set_option maxRecDepth 100000 in
theorem S_XSearch_withFunctions {O : qOb9} (hO : okO O) {n : Nat} {M0 : PM} {l0 : Nat} {l1 : Int32} {l2 : Int32} {l3 : Int64} {M : PM} {S : qS} (R : Rp O M S) (H : Fm O M0 M) : Sim eL O M0 (F_XSearch_withFunctions n l0 l1 l2 l3 M) (G_XSearch_withFunctions O n l0 l1 l2 l3 S) := by
  unfold F_XSearch_withFunctions G_XSearch_withFunctions
  refine sim_gA (by assumption) (fun _ => ?_)
  refine sim_lI (by assumption) (fun _ => ?_)
  refine sim_gI (by assumption) (fun _ => ?_)
  exact S_XSearch_withFunctions_17 hO _ _ _ _ _ _ _ _ _ (by assumption) (by assumption)
def G_XSearch_giveNumbers_111 (O : qOb9) (n : Nat) (slf : Nat → Int32 → Int32 → Int64 → qS → Option (Unit × qS)) (rec17 : Nat → Int32 → Int32 → Int64 → Int32 → qS → Option (Unit × qS)) (l0 : Nat) (l1 : Int32) (l2 : Int32) (l3 : Int64) (l5 : Int32) (S : qS) : Option (Unit × qS) :=
  hB (l5 + (1 : Int32)) (fun v1 =>
  rec17 l0 l1 l2 l3 v1 S)
set_option maxHeartbeats 4000000 in
set_option maxRecDepth 100000 in
theorem S_XSearch_giveNumbers_111 {O : qOb9} (hO : okO O) {n : Nat} {M0 : PM} {slf : Nat → Int32 → Int32 → Int64 → PM → qO} {gslf : Nat → Int32 → Int32 → Int64 → qS → Option (Unit × qS)} (hslf : ∀ (a0 : Nat) (a1 : Int32) (a2 : Int32) (a3 : Int64) (M : PM) (S : qS), Rp O M S → Fm O M0 M → Sim eV O M0 (slf a0 a1 a2 a3 M) (gslf a0 a1 a2 a3 S)) {rec17 : Nat → Int32 → Int32 → Int64 → Int32 → PM → qO} {grec17 : Nat → Int32 → Int32 → Int64 → Int32 → qS → Option (Unit × qS)} (hrec17 : ∀ (l0 : Nat) (l1 : Int32) (l2 : Int32) (l3 : Int64) (l5 : Int32) (M : PM) (S : qS), Rp O M S → Fm O M0 M → Sim eV O M0 (rec17 l0 l1 l2 l3 l5 M) (grec17 l0 l1 l2 l3 l5 S)) {l0 : Nat} {l1 : Int32} {l2 : Int32} {l3 : Int64} {l5 : Int32} {M : PM} {S : qS} (R : Rp O M S) (H : Fm O M0 M) : Sim eV O M0 (F_XSearch_giveNumbers_111 n slf rec17 l0 l1 l2 l3 l5 M) (G_XSearch_giveNumbers_111 O n gslf grec17 l0 l1 l2 l3 l5 S) := by
  unfold F_XSearch_giveNumbers_111 G_XSearch_giveNumbers_111
  refine sim_bI (fun _ => ?_)
  exact hrec17 _ _ _ _ _ _ _ (by assumption) (by assumption)
def G_XSearch_giveNumbers_87 (O : qOb9) (n : Nat) (slf : Nat → Int32 → Int32 → Int64 → qS → Option (Unit × qS)) (rec17 : Nat → Int32 → Int32 → Int64 → Int32 → qS → Option (Unit × qS)) (l0 : Nat) (l1 : Int32) (l2 : Int32) (l3 : Int64) (l5 : Int32) (l6 : Int64) (S : qS) : Option (Unit × qS) :=
  if (lg_cmp l6 (0 : Int64)) = (0 : Int32) then
    G_XSearch_giveNumbers_111 O n slf rec17 l0 l1 l2 l3 l5 S
  else
    hB (if l2 < (l5 + (1 : Int32)) then (l5 + (1 : Int32)) else l2) (fun v2 =>
    hk 8 O l0 (
    yV (slf l0 (l1 + (1 : Int32)) v2 l6 S) (fun S3 =>
    G_XSearch_giveNumbers_111 O n slf rec17 l0 l1 l2 l3 l5 S3)))
set_option maxHeartbeats 4000000 in
set_option maxRecDepth 100000 in
theorem S_XSearch_giveNumbers_87 {O : qOb9} (hO : okO O) {n : Nat} {M0 : PM} {slf : Nat → Int32 → Int32 → Int64 → PM → qO} {gslf : Nat → Int32 → Int32 → Int64 → qS → Option (Unit × qS)} (hslf : ∀ (a0 : Nat) (a1 : Int32) (a2 : Int32) (a3 : Int64) (M : PM) (S : qS), Rp O M S → Fm O M0 M → Sim eV O M0 (slf a0 a1 a2 a3 M) (gslf a0 a1 a2 a3 S)) {rec17 : Nat → Int32 → Int32 → Int64 → Int32 → PM → qO} {grec17 : Nat → Int32 → Int32 → Int64 → Int32 → qS → Option (Unit × qS)} (hrec17 : ∀ (l0 : Nat) (l1 : Int32) (l2 : Int32) (l3 : Int64) (l5 : Int32) (M : PM) (S : qS), Rp O M S → Fm O M0 M → Sim eV O M0 (rec17 l0 l1 l2 l3 l5 M) (grec17 l0 l1 l2 l3 l5 S)) {l0 : Nat} {l1 : Int32} {l2 : Int32} {l3 : Int64} {l5 : Int32} {l6 : Int64} {M : PM} {S : qS} (R : Rp O M S) (H : Fm O M0 M) : Sim eV O M0 (F_XSearch_giveNumbers_87 n slf rec17 l0 l1 l2 l3 l5 l6 M) (G_XSearch_giveNumbers_87 O n gslf grec17 l0 l1 l2 l3 l5 l6 S) := by
  unfold F_XSearch_giveNumbers_87 G_XSearch_giveNumbers_87
  refine sim_if (fun _ => ?_) (fun _ => ?_)
  exact S_XSearch_giveNumbers_111 hO hslf hrec17 (by assumption) (by assumption)
  refine sim_bI (fun _ => ?_)
  refine sim_kO (by assumption) ?_
  refine sim_cV (hslf _ _ _ _ _ _ (by assumption) (by assumption)) (fun _ _ _ _ => ?_)
  exact S_XSearch_giveNumbers_111 hO hslf hrec17 (by assumption) (by assumption)
def G_XSearch_giveNumbers_17 (O : qOb9) (n : Nat) (slf : Nat → Int32 → Int32 → Int64 → qS → Option (Unit × qS)) : Nat → Nat → Int32 → Int32 → Int64 → Int32 → qS → Option (Unit × qS)
  | 0, _, _, _, _, _, _ => none
  | f + 1, l0, l1, l2, l3, l5, S =>
    if l2 < l5 then
      some ((), S)
    else
      hk 8 O l0 (
      yC (G_XSearch_statesOfUse O n l0 l1 S) (fun v3 S2 =>
      hk 8 O l0 (
      yC (G_XSearch_withFunctions O n l0 l1 l5 (l3 &&& v3) S2) (fun v5 S4 =>
      if (lg_cmp v5 (0 : Int64)) = (0 : Int32) then
        G_XSearch_giveNumbers_87 O n slf (G_XSearch_giveNumbers_17 O n slf f) l0 l1 l2 l3 l5 v5 S4
      else
        hA 8 O l0 5 (fun v7 =>
        hw 0 O S4 v7 l1 l5 (fun S8 =>
        hO 8 O l0 2 (fun v9 =>
        hA 8 O l0 4 (fun v10 =>
        hl 0 O S8 v10 l1 (fun v11 =>
        hk 5 O v9 (
        yV (G_XPlanes_setWord O n v9 v11 l5 S8) (fun S12 =>
        hk 8 O l0 (
        yV (G_XSearch_reckonLevel O n l0 (l1 + (1 : Int32)) S12) (fun S13 =>
        hk 8 O l0 (
        yC (G_XSearch_withInvariants O n l0 (l1 + (1 : Int32)) v5 S13) (fun v15 S14 =>
        G_XSearch_giveNumbers_87 O n slf (G_XSearch_giveNumbers_17 O n slf f) l0 l1 l2 l3 l5 v15 S14)))))))))))))))
set_option maxHeartbeats 4000000 in
set_option maxRecDepth 100000 in
theorem S_XSearch_giveNumbers_17 {O : qOb9} (hO : okO O) {n : Nat} {M0 : PM} {slf : Nat → Int32 → Int32 → Int64 → PM → qO} {gslf : Nat → Int32 → Int32 → Int64 → qS → Option (Unit × qS)} (hslf : ∀ (a0 : Nat) (a1 : Int32) (a2 : Int32) (a3 : Int64) (M : PM) (S : qS), Rp O M S → Fm O M0 M → Sim eV O M0 (slf a0 a1 a2 a3 M) (gslf a0 a1 a2 a3 S)) : ∀ (f : Nat) (l0 : Nat) (l1 : Int32) (l2 : Int32) (l3 : Int64) (l5 : Int32) (M : PM) (S : qS), Rp O M S → Fm O M0 M → Sim eV O M0 (F_XSearch_giveNumbers_17 n slf f l0 l1 l2 l3 l5 M) (G_XSearch_giveNumbers_17 O n gslf f l0 l1 l2 l3 l5 S) := by
  intro f
  induction f with
  | zero => intro l0 l1 l2 l3 l5 M S _ _; rw [G_XSearch_giveNumbers_17]; exact sim_none
  | succ f ih =>
    intro l0 l1 l2 l3 l5 M S R H
    rw [F_XSearch_giveNumbers_17, G_XSearch_giveNumbers_17]
    refine sim_if (fun _ => ?_) (fun _ => ?_)
    exact sim_retV (by assumption) (by assumption)
    refine sim_kO (by assumption) ?_
    refine sim_cL (S_XSearch_statesOfUse hO (by assumption) (by assumption)) (fun _ _ _ _ _ => ?_)
    refine sim_kO (by assumption) ?_
    refine sim_cL (S_XSearch_withFunctions hO (by assumption) (by assumption)) (fun _ _ _ _ _ => ?_)
    refine sim_if (fun _ => ?_) (fun _ => ?_)
    exact S_XSearch_giveNumbers_87 hO hslf ih (by assumption) (by assumption)
    refine sim_gA (by assumption) (fun _ => ?_)
    refine sim_wI hO (by assumption) (by assumption) (fun _ _ _ _ => ?_)
    refine sim_gO (by assumption) (fun _ => ?_)
    refine sim_gA (by assumption) (fun _ => ?_)
    refine sim_lI (by assumption) (fun _ => ?_)
    refine sim_kO (by assumption) ?_
    refine sim_cV (S_XPlanes_setWord hO (by assumption) (by assumption)) (fun _ _ _ _ => ?_)
    refine sim_kO (by assumption) ?_
    refine sim_cV (S_XSearch_reckonLevel hO (by assumption) (by assumption)) (fun _ _ _ _ => ?_)
    refine sim_kO (by assumption) ?_
    refine sim_cL (S_XSearch_withInvariants hO (by assumption) (by assumption)) (fun _ _ _ _ _ => ?_)
    exact S_XSearch_giveNumbers_87 hO hslf ih (by assumption) (by assumption)
def G_XSearch_giveNumbers_b (O : qOb9) (n : Nat) (slf : Nat → Int32 → Int32 → Int64 → qS → Option (Unit × qS)) (l0 : Nat) (l1 : Int32) (l2 : Int32) (l3 : Int64) (S : qS) : Option (Unit × qS) :=
  hI 8 O S l0 11 (fun v1 =>
  if l1 < v1 then
    G_XSearch_giveNumbers_17 O n slf n l0 l1 l2 l3 (0 : Int32) S
  else
    hk 8 O l0 (
    yV (G_XSearch_look O n l0 l3 S) (fun S3 =>
    some ((), S3))))
set_option maxHeartbeats 4000000 in
set_option maxRecDepth 100000 in
theorem S_XSearch_giveNumbers_b {O : qOb9} (hO : okO O) {n : Nat} {M0 : PM} {slf : Nat → Int32 → Int32 → Int64 → PM → qO} {gslf : Nat → Int32 → Int32 → Int64 → qS → Option (Unit × qS)} (hslf : ∀ (a0 : Nat) (a1 : Int32) (a2 : Int32) (a3 : Int64) (M : PM) (S : qS), Rp O M S → Fm O M0 M → Sim eV O M0 (slf a0 a1 a2 a3 M) (gslf a0 a1 a2 a3 S)) {l0 : Nat} {l1 : Int32} {l2 : Int32} {l3 : Int64} {M : PM} {S : qS} (R : Rp O M S) (H : Fm O M0 M) : Sim eV O M0 (F_XSearch_giveNumbers_b n slf l0 l1 l2 l3 M) (G_XSearch_giveNumbers_b O n gslf l0 l1 l2 l3 S) := by
  unfold F_XSearch_giveNumbers_b G_XSearch_giveNumbers_b
  refine sim_gI (by assumption) (fun _ => ?_)
  refine sim_if (fun _ => ?_) (fun _ => ?_)
  exact S_XSearch_giveNumbers_17 hO hslf _ _ _ _ _ _ _ _ (by assumption) (by assumption)
  refine sim_kO (by assumption) ?_
  refine sim_cV (S_XSearch_look hO (by assumption) (by assumption)) (fun _ _ _ _ => ?_)
  exact sim_retV (by assumption) (by assumption)
def G_XSearch_giveNumbers (O : qOb9) (n : Nat) : Nat → Nat → Int32 → Int32 → Int64 → qS → Option (Unit × qS)
  | 0, _, _, _, _, _ => none
  | d + 1, l0, l1, l2, l3, S => G_XSearch_giveNumbers_b O n (G_XSearch_giveNumbers O n d) l0 l1 l2 l3 S
theorem S_XSearch_giveNumbers {O : qOb9} (hO : okO O) {n : Nat} {M0 : PM} : ∀ {d : Nat} {l0 : Nat} {l1 : Int32} {l2 : Int32} {l3 : Int64} {M : PM} {S : qS}, Rp O M S → Fm O M0 M → Sim eV O M0 (F_XSearch_giveNumbers n d l0 l1 l2 l3 M) (G_XSearch_giveNumbers O n d l0 l1 l2 l3 S) := by
  intro d
  induction d with
  | zero => intro l0 l1 l2 l3 M S _ _; rw [G_XSearch_giveNumbers]; exact sim_none
  | succ d ih =>
    intro l0 l1 l2 l3 M S R H
    rw [F_XSearch_giveNumbers, G_XSearch_giveNumbers]
    exact S_XSearch_giveNumbers_b hO (slf := F_XSearch_giveNumbers n d) (gslf := G_XSearch_giveNumbers O n d) (fun _ _ _ _ _ _ R H => ih R H) R H
def G_XSearch_findLeast_77 (O : qOb9) (n : Nat) (s0 : Int32) (S : qS) : Option (Int32 × qS) :=
  hz s0 S
set_option maxHeartbeats 4000000 in
set_option maxRecDepth 100000 in
theorem S_XSearch_findLeast_77 {O : qOb9} (hO : okO O) {n : Nat} {M0 : PM} {s0 : Int32} {M : PM} {S : qS} (R : Rp O M S) (H : Fm O M0 M) : Sim eI O M0 (F_XSearch_findLeast_77 n s0 M) (G_XSearch_findLeast_77 O n s0 S) := by
  unfold F_XSearch_findLeast_77 G_XSearch_findLeast_77
  exact sim_rZ (by assumption) (by assumption)
def G_XSearch_findLeast_63 (O : qOb9) (n : Nat) (l0 : Nat) (S : qS) : Option (Int32 × qS) :=
  hI 8 O S l0 13 (fun v1 =>
  if v1 = (64 : Int32) then
    G_XSearch_findLeast_77 O n (0 : Int32) S
  else
    G_XSearch_findLeast_77 O n (1 : Int32) S)
set_option maxHeartbeats 4000000 in
set_option maxRecDepth 100000 in
theorem S_XSearch_findLeast_63 {O : qOb9} (hO : okO O) {n : Nat} {M0 : PM} {l0 : Nat} {M : PM} {S : qS} (R : Rp O M S) (H : Fm O M0 M) : Sim eI O M0 (F_XSearch_findLeast_63 n l0 M) (G_XSearch_findLeast_63 O n l0 S) := by
  unfold F_XSearch_findLeast_63 G_XSearch_findLeast_63
  refine sim_gI (by assumption) (fun _ => ?_)
  refine sim_if (fun _ => ?_) (fun _ => ?_)
  exact S_XSearch_findLeast_77 hO (by assumption) (by assumption)
  exact S_XSearch_findLeast_77 hO (by assumption) (by assumption)
def G_XSearch_findLeast (O : qOb9) (n : Nat) (l0 : Nat) (l1 : Nat × Nat) (S : qS) : Option (Int32 × qS) :=
  hP 8 O S l0 13 ((64 : Int32)) (fun S1 =>
  hP 8 O S1 l0 14 ((0 : Int32)) (fun S2 =>
  hk 8 O l0 (
  yV (G_XSearch_collect O n l0 l1 S2) (fun S3 =>
  hk 8 O l0 (
  yV (G_XSearch_setLevels O n l0 l1 S3) (fun S4 =>
  hk 8 O l0 (
  yV (G_XSearch_arrange O n l0 l1 S4) (fun S5 =>
  hk 8 O l0 (
  yV (G_XSearch_setTruths O n l0 S5) (fun S6 =>
  hk 8 O l0 (
  yV (G_XSearch_reckonLevel O n l0 (0 : Int32) S6) (fun S7 =>
  hI 8 O S7 l0 10 (fun v8 =>
  yC (G_XSearch_statesBelow O n ((1 : Int32) <<< (v8 &&& 31)) S7) (fun v10 S9 =>
  hk 8 O l0 (
  yC (G_XSearch_withInvariants O n l0 (0 : Int32) v10 S9) (fun v12 S11 =>
  if (lg_cmp v12 (0 : Int64)) = (0 : Int32) then
    G_XSearch_findLeast_63 O n l0 S11
  else
    hk 8 O l0 (
    yV (G_XSearch_giveNumbers O n 8 l0 (0 : Int32) (0 : Int32) v12 S11) (fun S14 =>
    G_XSearch_findLeast_63 O n l0 S14))))))))))))))))))
set_option maxHeartbeats 4000000 in
set_option maxRecDepth 100000 in
theorem S_XSearch_findLeast {O : qOb9} (hO : okO O) {n : Nat} {M0 : PM} {l0 : Nat} {l1 : Nat × Nat} {M : PM} {S : qS} (R : Rp O M S) (H : Fm O M0 M) : Sim eI O M0 (F_XSearch_findLeast n l0 (oA O l1.1 l1.2) M) (G_XSearch_findLeast O n l0 l1 S) := by
  unfold F_XSearch_findLeast G_XSearch_findLeast
  refine sim_pF (by assumption) (by assumption) (fun _ _ _ _ => ?_)
  refine sim_pF (by assumption) (by assumption) (fun _ _ _ _ => ?_)
  refine sim_kO (by assumption) ?_
  refine sim_cV (S_XSearch_collect hO (by assumption) (by assumption)) (fun _ _ _ _ => ?_)
  refine sim_kO (by assumption) ?_
  refine sim_cV (S_XSearch_setLevels hO (by assumption) (by assumption)) (fun _ _ _ _ => ?_)
  refine sim_kO (by assumption) ?_
  refine sim_cV (S_XSearch_arrange hO (by assumption) (by assumption)) (fun _ _ _ _ => ?_)
  refine sim_kO (by assumption) ?_
  refine sim_cV (S_XSearch_setTruths hO (by assumption) (by assumption)) (fun _ _ _ _ => ?_)
  refine sim_kO (by assumption) ?_
  refine sim_cV (S_XSearch_reckonLevel hO (by assumption) (by assumption)) (fun _ _ _ _ => ?_)
  refine sim_gI (by assumption) (fun _ => ?_)
  refine sim_cL (S_XSearch_statesBelow hO (by assumption) (by assumption)) (fun _ _ _ _ _ => ?_)
  refine sim_kO (by assumption) ?_
  refine sim_cL (S_XSearch_withInvariants hO (by assumption) (by assumption)) (fun _ _ _ _ _ => ?_)
  refine sim_if (fun _ => ?_) (fun _ => ?_)
  exact S_XSearch_findLeast_63 hO (by assumption) (by assumption)
  refine sim_kO (by assumption) ?_
  refine sim_cV (S_XSearch_giveNumbers hO (by assumption) (by assumption)) (fun _ _ _ _ => ?_)
  exact S_XSearch_findLeast_63 hO (by assumption) (by assumption)
def G_XSearch_tell_90 (O : qOb9) (n : Nat) (rec28 : Nat → Nat → Int32 → qS → Option (Unit × qS)) (l0 : Nat) (l1 : Nat) (l2 : Int32) (S : qS) : Option (Unit × qS) :=
  hB (l2 + (1 : Int32)) (fun v1 =>
  rec28 l0 l1 v1 S)
set_option maxHeartbeats 4000000 in
set_option maxRecDepth 100000 in
theorem S_XSearch_tell_90 {O : qOb9} (hO : okO O) {n : Nat} {M0 : PM} {rec28 : Nat → Nat → Int32 → PM → qO} {grec28 : Nat → Nat → Int32 → qS → Option (Unit × qS)} (hrec28 : ∀ (l0 : Nat) (l1 : Nat) (l2 : Int32) (M : PM) (S : qS), Rp O M S → Fm O M0 M → Sim eV O M0 (rec28 l0 l1 l2 M) (grec28 l0 l1 l2 S)) {l0 : Nat} {l1 : Nat} {l2 : Int32} {M : PM} {S : qS} (R : Rp O M S) (H : Fm O M0 M) : Sim eV O M0 (F_XSearch_tell_90 n rec28 l0 l1 l2 M) (G_XSearch_tell_90 O n grec28 l0 l1 l2 S) := by
  unfold F_XSearch_tell_90 G_XSearch_tell_90
  refine sim_bI (fun _ => ?_)
  exact hrec28 _ _ _ _ _ (by assumption) (by assumption)
def G_XSearch_tell_98 (O : qOb9) (n : Nat) : Nat → Nat → Nat → Int32 → qS → Option (Unit × qS)
  | 0, _, _, _, _ => none
  | f + 1, l0, l1, l2, S =>
    hI 8 O S l0 12 (fun v1 =>
    if v1 ≤ l2 then
      some ((), S)
    else
      hA 4 O l1 0 (fun v3 =>
      hO 8 O l0 0 (fun v4 =>
      hA 3 O v4 1 (fun v5 =>
      hA 8 O l0 4 (fun v6 =>
      hl 0 O S v6 l2 (fun v7 =>
      hl 0 O S v5 v7 (fun v8 =>
      hA 8 O l0 9 (fun v9 =>
      hl 0 O S v9 l2 (fun v10 =>
      hw 0 O S v3 v8 v10 (fun S11 =>
      hB (l2 + (1 : Int32)) (fun v12 =>
      (G_XSearch_tell_98 O n f) l0 l1 v12 S11)))))))))))
set_option maxHeartbeats 4000000 in
set_option maxRecDepth 100000 in
theorem S_XSearch_tell_98 {O : qOb9} (hO : okO O) {n : Nat} {M0 : PM} : ∀ (f : Nat) (l0 : Nat) (l1 : Nat) (l2 : Int32) (M : PM) (S : qS), Rp O M S → Fm O M0 M → Sim eV O M0 (F_XSearch_tell_98 n f l0 l1 l2 M) (G_XSearch_tell_98 O n f l0 l1 l2 S) := by
  intro f
  induction f with
  | zero => intro l0 l1 l2 M S _ _; rw [G_XSearch_tell_98]; exact sim_none
  | succ f ih =>
    intro l0 l1 l2 M S R H
    rw [F_XSearch_tell_98, G_XSearch_tell_98]
    refine sim_gI (by assumption) (fun _ => ?_)
    refine sim_if (fun _ => ?_) (fun _ => ?_)
    exact sim_retV (by assumption) (by assumption)
    refine sim_gA (by assumption) (fun _ => ?_)
    refine sim_gO (by assumption) (fun _ => ?_)
    refine sim_gA (by assumption) (fun _ => ?_)
    refine sim_gA (by assumption) (fun _ => ?_)
    refine sim_lI (by assumption) (fun _ => ?_)
    refine sim_lI (by assumption) (fun _ => ?_)
    refine sim_gA (by assumption) (fun _ => ?_)
    refine sim_lI (by assumption) (fun _ => ?_)
    refine sim_wI hO (by assumption) (by assumption) (fun _ _ _ _ => ?_)
    refine sim_bI (fun _ => ?_)
    exact ih _ _ _ _ _ (by assumption) (by assumption)
def G_XSearch_tell_28 (O : qOb9) (n : Nat) : Nat → Nat → Nat → Int32 → qS → Option (Unit × qS)
  | 0, _, _, _, _ => none
  | f + 1, l0, l1, l2, S =>
    hI 8 O S l0 10 (fun v1 =>
    if v1 ≤ l2 then
      G_XSearch_tell_98 O n n l0 l1 (0 : Int32) S
    else
      hI 8 O S l0 13 (fun v3 =>
      hI 8 O S l0 10 (fun v4 =>
      hB ((v3 >>> (((v4 - (1 : Int32)) - l2) &&& 31)) &&& (1 : Int32)) (fun v5 =>
      hA 8 O l0 3 (fun v6 =>
      hl 0 O S v6 l2 (fun v7 =>
      if v7 = (2 : Int32) then
        hP 4 O S l1 3 (v5) (fun S16 =>
        G_XSearch_tell_90 O n (G_XSearch_tell_28 O n f) l0 l1 l2 S16)
      else
        hA 4 O l1 0 (fun v9 =>
        hO 8 O l0 0 (fun v10 =>
        hA 3 O v10 1 (fun v11 =>
        hA 8 O l0 3 (fun v12 =>
        hl 0 O S v12 l2 (fun v13 =>
        hl 0 O S v11 v13 (fun v14 =>
        hw 0 O S v9 v14 v5 (fun S15 =>
        G_XSearch_tell_90 O n (G_XSearch_tell_28 O n f) l0 l1 l2 S15)))))))))))))
set_option maxHeartbeats 4000000 in
set_option maxRecDepth 100000 in
theorem S_XSearch_tell_28 {O : qOb9} (hO : okO O) {n : Nat} {M0 : PM} : ∀ (f : Nat) (l0 : Nat) (l1 : Nat) (l2 : Int32) (M : PM) (S : qS), Rp O M S → Fm O M0 M → Sim eV O M0 (F_XSearch_tell_28 n f l0 l1 l2 M) (G_XSearch_tell_28 O n f l0 l1 l2 S) := by
  intro f
  induction f with
  | zero => intro l0 l1 l2 M S _ _; rw [G_XSearch_tell_28]; exact sim_none
  | succ f ih =>
    intro l0 l1 l2 M S R H
    rw [F_XSearch_tell_28, G_XSearch_tell_28]
    refine sim_gI (by assumption) (fun _ => ?_)
    refine sim_if (fun _ => ?_) (fun _ => ?_)
    exact S_XSearch_tell_98 hO _ _ _ _ _ _ (by assumption) (by assumption)
    refine sim_gI (by assumption) (fun _ => ?_)
    refine sim_gI (by assumption) (fun _ => ?_)
    refine sim_bI (fun _ => ?_)
    refine sim_gA (by assumption) (fun _ => ?_)
    refine sim_lI (by assumption) (fun _ => ?_)
    refine sim_if (fun _ => ?_) (fun _ => ?_)
    refine sim_pF (by assumption) (by assumption) (fun _ _ _ _ => ?_)
    exact S_XSearch_tell_90 hO ih (by assumption) (by assumption)
    refine sim_gA (by assumption) (fun _ => ?_)
    refine sim_gO (by assumption) (fun _ => ?_)
    refine sim_gA (by assumption) (fun _ => ?_)
    refine sim_gA (by assumption) (fun _ => ?_)
    refine sim_lI (by assumption) (fun _ => ?_)
    refine sim_lI (by assumption) (fun _ => ?_)
    refine sim_wI hO (by assumption) (by assumption) (fun _ _ _ _ => ?_)
    exact S_XSearch_tell_90 hO ih (by assumption) (by assumption)
def G_XSearch_tell (O : qOb9) (n : Nat) (l0 : Nat) (l1 : Nat) (S : qS) : Option (Unit × qS) :=
  hI 8 O S l0 13 (fun v1 =>
  if v1 = (64 : Int32) then
    some ((), S)
  else
    hO 8 O l0 1 (fun v3 =>
    hA 7 O v3 2 (fun v4 =>
    hI 8 O S l0 14 (fun v5 =>
    hl 0 O S v4 v5 (fun v6 =>
    hP 4 O S l1 4 (v6) (fun S7 =>
    G_XSearch_tell_28 O n n l0 l1 (0 : Int32) S7))))))
set_option maxHeartbeats 4000000 in
set_option maxRecDepth 100000 in
theorem S_XSearch_tell {O : qOb9} (hO : okO O) {n : Nat} {M0 : PM} {l0 : Nat} {l1 : Nat} {M : PM} {S : qS} (R : Rp O M S) (H : Fm O M0 M) : Sim eV O M0 (F_XSearch_tell n l0 l1 M) (G_XSearch_tell O n l0 l1 S) := by
  unfold F_XSearch_tell G_XSearch_tell
  refine sim_gI (by assumption) (fun _ => ?_)
  refine sim_if (fun _ => ?_) (fun _ => ?_)
  exact sim_retV (by assumption) (by assumption)
  refine sim_gO (by assumption) (fun _ => ?_)
  refine sim_gA (by assumption) (fun _ => ?_)
  refine sim_gI (by assumption) (fun _ => ?_)
  refine sim_lI (by assumption) (fun _ => ?_)
  refine sim_pF (by assumption) (by assumption) (fun _ _ _ _ => ?_)
  exact S_XSearch_tell_28 hO _ _ _ _ _ _ (by assumption) (by assumption)
def G_XProver_decide_68 (O : qOb9) (n : Nat) (S : qS) : Option (Unit × qS) :=
  some ((), S)
set_option maxHeartbeats 4000000 in
set_option maxRecDepth 100000 in
theorem S_XProver_decide_68 {O : qOb9} (hO : okO O) {n : Nat} {M0 : PM} {M : PM} {S : qS} (R : Rp O M S) (H : Fm O M0 M) : Sim eV O M0 (F_XProver_decide_68 n M) (G_XProver_decide_68 O n S) := by
  unfold F_XProver_decide_68 G_XProver_decide_68
  exact sim_retV (by assumption) (by assumption)
def G_XProver_decide_57 (O : qOb9) (n : Nat) (l0 : Nat) (l1 : Nat) (s0 : Nat) (s1 : Int32) (S : qS) : Option (Unit × qS) :=
  hP 4 O S s0 1 (s1) (fun S1 =>
  hO 6 O l0 2 (fun v2 =>
  hk 8 O v2 (
  yV (G_XSearch_tell O n v2 l1 S1) (fun S3 =>
  G_XProver_decide_68 O n S3))))
set_option maxHeartbeats 4000000 in
set_option maxRecDepth 100000 in
theorem S_XProver_decide_57 {O : qOb9} (hO : okO O) {n : Nat} {M0 : PM} {l0 : Nat} {l1 : Nat} {s0 : Nat} {s1 : Int32} {M : PM} {S : qS} (R : Rp O M S) (H : Fm O M0 M) : Sim eV O M0 (F_XProver_decide_57 n l0 l1 s0 s1 M) (G_XProver_decide_57 O n l0 l1 s0 s1 S) := by
  unfold F_XProver_decide_57 G_XProver_decide_57
  refine sim_pF (by assumption) (by assumption) (fun _ _ _ _ => ?_)
  refine sim_gO (by assumption) (fun _ => ?_)
  refine sim_kO (by assumption) ?_
  refine sim_cV (S_XSearch_tell hO (by assumption) (by assumption)) (fun _ _ _ _ => ?_)
  exact S_XProver_decide_68 hO (by assumption) (by assumption)
def G_XProver_decide (O : qOb9) (n : Nat) (l0 : Nat) (l1 : Nat) (S : qS) : Option (Unit × qS) :=
  hk 4 O l1 (
  yC (G_XOutcome_isTooLarge O n l1 S) (fun v2 S1 =>
  if v2 = (0 : Int32) then
    hO 6 O l0 1 (fun v4 =>
    hI 7 O S1 v4 4 (fun v5 =>
    if v5 = (0 : Int32) then
      hP 4 O S1 l1 1 ((1 : Int32)) (fun S13 =>
      G_XProver_decide_68 O n S13)
    else
      hk 6 O l0 (
      yV (G_XProver_markNeeded O n l0 S1) (fun S7 =>
      hO 6 O l0 2 (fun v8 =>
      hA 6 O l0 3 (fun v9 =>
      hk 8 O v8 (
      yC (G_XSearch_findLeast O n v8 v9 S7) (fun v11 S10 =>
      if v11 = (0 : Int32) then
        G_XProver_decide_57 O n l0 l1 l1 (1 : Int32) S10
      else
        G_XProver_decide_57 O n l0 l1 l1 (0 : Int32) S10))))))))
  else
    hP 4 O S1 l1 1 ((2 : Int32)) (fun S14 =>
    G_XProver_decide_68 O n S14)))
set_option maxHeartbeats 4000000 in
set_option maxRecDepth 100000 in
theorem S_XProver_decide {O : qOb9} (hO : okO O) {n : Nat} {M0 : PM} {l0 : Nat} {l1 : Nat} {M : PM} {S : qS} (R : Rp O M S) (H : Fm O M0 M) : Sim eV O M0 (F_XProver_decide n l0 l1 M) (G_XProver_decide O n l0 l1 S) := by
  unfold F_XProver_decide G_XProver_decide
  refine sim_kO (by assumption) ?_
  refine sim_cI (S_XOutcome_isTooLarge hO (by assumption) (by assumption)) (fun _ _ _ _ _ => ?_)
  refine sim_if (fun _ => ?_) (fun _ => ?_)
  refine sim_gO (by assumption) (fun _ => ?_)
  refine sim_gI (by assumption) (fun _ => ?_)
  refine sim_if (fun _ => ?_) (fun _ => ?_)
  refine sim_pF (by assumption) (by assumption) (fun _ _ _ _ => ?_)
  exact S_XProver_decide_68 hO (by assumption) (by assumption)
  refine sim_kO (by assumption) ?_
  refine sim_cV (S_XProver_markNeeded hO (by assumption) (by assumption)) (fun _ _ _ _ => ?_)
  refine sim_gO (by assumption) (fun _ => ?_)
  refine sim_gA (by assumption) (fun _ => ?_)
  refine sim_kO (by assumption) ?_
  refine sim_cI (S_XSearch_findLeast hO (by assumption) (by assumption)) (fun _ _ _ _ _ => ?_)
  refine sim_if (fun _ => ?_) (fun _ => ?_)
  exact S_XProver_decide_57 hO (by assumption) (by assumption)
  exact S_XProver_decide_57 hO (by assumption) (by assumption)
  refine sim_pF (by assumption) (by assumption) (fun _ _ _ _ => ?_)
  exact S_XProver_decide_68 hO (by assumption) (by assumption)
def G_X_requireRoomForElement_28 (O : qOb9) (n : Nat) (S : qS) : Option ((Unit ⊕ String) × qS) :=
  some (.inr "java/lang/UnsupportedOperationException", S)
set_option maxHeartbeats 4000000 in
set_option maxRecDepth 100000 in
theorem S_X_requireRoomForElement_28 {O : qOb9} (hO : okO O) {n : Nat} {M0 : PM} {M : PM} {S : qS} (R : Rp O M S) (H : Fm O M0 M) : Sim (eX eV) O M0 (F_X_requireRoomForElement_28 n M) (G_X_requireRoomForElement_28 O n S) := by
  unfold F_X_requireRoomForElement_28 G_X_requireRoomForElement_28
  exact sim_throw (by assumption) (by assumption)
def G_X_requireRoomForElement (O : qOb9) (n : Nat) (l0 : Nat) (S : qS) : Option ((Unit ⊕ String) × qS) :=
  hO 1 O l0 0 (fun v1 =>
  hI 2 O S v1 6 (fun v2 =>
  if (16 : Int32) ≤ v2 then
    G_X_requireRoomForElement_28 O n S
  else
    hO 1 O l0 0 (fun v4 =>
    hO 2 O v4 0 (fun v5 =>
    hI 3 O S v5 7 (fun v6 =>
    if v6 < (300 : Int32) then
      some (.inl (), S)
    else
      G_X_requireRoomForElement_28 O n S)))))
set_option maxHeartbeats 4000000 in
set_option maxRecDepth 100000 in
theorem S_X_requireRoomForElement {O : qOb9} (hO : okO O) {n : Nat} {M0 : PM} {l0 : Nat} {M : PM} {S : qS} (R : Rp O M S) (H : Fm O M0 M) : Sim (eX eV) O M0 (F_X_requireRoomForElement n l0 M) (G_X_requireRoomForElement O n l0 S) := by
  unfold F_X_requireRoomForElement G_X_requireRoomForElement
  refine sim_gO (by assumption) (fun _ => ?_)
  refine sim_gI (by assumption) (fun _ => ?_)
  refine sim_if (fun _ => ?_) (fun _ => ?_)
  exact S_X_requireRoomForElement_28 hO (by assumption) (by assumption)
  refine sim_gO (by assumption) (fun _ => ?_)
  refine sim_gO (by assumption) (fun _ => ?_)
  refine sim_gI (by assumption) (fun _ => ?_)
  refine sim_if (fun _ => ?_) (fun _ => ?_)
  exact sim_retVx (by assumption) (by assumption)
  exact S_X_requireRoomForElement_28 hO (by assumption) (by assumption)
def G_X_word (O : qOb9) (n : Nat) (l0 : Nat) (S : qS) : Option ((Int32 ⊕ String) × qS) :=
  hk 1 O l0 (
  tW (G_X_requireRoomForElement O n l0 S) (fun S1 =>
  hO 1 O l0 0 (fun v2 =>
  hk 2 O v2 (
  yC (G_XCore_addElement O n v2 (3 : Int32) S1) (fun v4 S3 =>
  some (.inl (v4), S3))))))
set_option maxHeartbeats 4000000 in
set_option maxRecDepth 100000 in
theorem S_X_word {O : qOb9} (hO : okO O) {n : Nat} {M0 : PM} {l0 : Nat} {M : PM} {S : qS} (R : Rp O M S) (H : Fm O M0 M) : Sim (eX eI) O M0 (F_X_word n l0 M) (G_X_word O n l0 S) := by
  unfold F_X_word G_X_word
  refine sim_kO (by assumption) ?_
  refine sim_tV (S_X_requireRoomForElement hO (by assumption) (by assumption)) (fun _ _ _ _ => ?_)
  refine sim_gO (by assumption) (fun _ => ?_)
  refine sim_kO (by assumption) ?_
  refine sim_cI (S_XCore_addElement hO (by assumption) (by assumption)) (fun _ _ _ _ _ => ?_)
  exact sim_retIx (by assumption) (by assumption)
def G_X_truth (O : qOb9) (n : Nat) (l0 : Nat) (S : qS) : Option ((Int32 ⊕ String) × qS) :=
  hk 1 O l0 (
  tW (G_X_requireRoomForElement O n l0 S) (fun S1 =>
  hO 1 O l0 0 (fun v2 =>
  hk 2 O v2 (
  yC (G_XCore_addElement O n v2 (4 : Int32) S1) (fun v4 S3 =>
  some (.inl (v4), S3))))))
set_option maxHeartbeats 4000000 in
set_option maxRecDepth 100000 in
theorem S_X_truth {O : qOb9} (hO : okO O) {n : Nat} {M0 : PM} {l0 : Nat} {M : PM} {S : qS} (R : Rp O M S) (H : Fm O M0 M) : Sim (eX eI) O M0 (F_X_truth n l0 M) (G_X_truth O n l0 S) := by
  unfold F_X_truth G_X_truth
  refine sim_kO (by assumption) ?_
  refine sim_tV (S_X_requireRoomForElement hO (by assumption) (by assumption)) (fun _ _ _ _ => ?_)
  refine sim_gO (by assumption) (fun _ => ?_)
  refine sim_kO (by assumption) ?_
  refine sim_cI (S_XCore_addElement hO (by assumption) (by assumption)) (fun _ _ _ _ _ => ?_)
  exact sim_retIx (by assumption) (by assumption)
def G_X_requireNode (O : qOb9) (n : Nat) (l0 : Nat) (l1 : Int32) (S : qS) : Option ((Unit ⊕ String) × qS) :=
  hO 1 O l0 0 (fun v1 =>
  hO 2 O v1 0 (fun v2 =>
  hk 3 O v2 (
  yC (G_XNodes_has O n v2 l1 S) (fun v4 S3 =>
  if v4 = (0 : Int32) then
    some (.inr "java/lang/IndexOutOfBoundsException", S3)
  else
    some (.inl (), S3)))))
set_option maxHeartbeats 4000000 in
set_option maxRecDepth 100000 in
theorem S_X_requireNode {O : qOb9} (hO : okO O) {n : Nat} {M0 : PM} {l0 : Nat} {l1 : Int32} {M : PM} {S : qS} (R : Rp O M S) (H : Fm O M0 M) : Sim (eX eV) O M0 (F_X_requireNode n l0 l1 M) (G_X_requireNode O n l0 l1 S) := by
  unfold F_X_requireNode G_X_requireNode
  refine sim_gO (by assumption) (fun _ => ?_)
  refine sim_gO (by assumption) (fun _ => ?_)
  refine sim_kO (by assumption) ?_
  refine sim_cI (S_XNodes_has hO (by assumption) (by assumption)) (fun _ _ _ _ _ => ?_)
  refine sim_if (fun _ => ?_) (fun _ => ?_)
  exact sim_throw (by assumption) (by assumption)
  exact sim_retVx (by assumption) (by assumption)
def G_X_requireWord (O : qOb9) (n : Nat) (l0 : Nat) (l1 : Int32) (S : qS) : Option ((Unit ⊕ String) × qS) :=
  hO 1 O l0 0 (fun v1 =>
  hO 2 O v1 0 (fun v2 =>
  hk 3 O v2 (
  yC (G_XNodes_isWord O n v2 l1 S) (fun v4 S3 =>
  if v4 = (0 : Int32) then
    some (.inr "java/lang/IllegalArgumentException", S3)
  else
    some (.inl (), S3)))))
set_option maxHeartbeats 4000000 in
set_option maxRecDepth 100000 in
theorem S_X_requireWord {O : qOb9} (hO : okO O) {n : Nat} {M0 : PM} {l0 : Nat} {l1 : Int32} {M : PM} {S : qS} (R : Rp O M S) (H : Fm O M0 M) : Sim (eX eV) O M0 (F_X_requireWord n l0 l1 M) (G_X_requireWord O n l0 l1 S) := by
  unfold F_X_requireWord G_X_requireWord
  refine sim_gO (by assumption) (fun _ => ?_)
  refine sim_gO (by assumption) (fun _ => ?_)
  refine sim_kO (by assumption) ?_
  refine sim_cI (S_XNodes_isWord hO (by assumption) (by assumption)) (fun _ _ _ _ _ => ?_)
  refine sim_if (fun _ => ?_) (fun _ => ?_)
  exact sim_throw (by assumption) (by assumption)
  exact sim_retVx (by assumption) (by assumption)
def G_X_landed (O : qOb9) (n : Nat) (l0 : Int32) (S : qS) : Option ((Int32 ⊕ String) × qS) :=
  if l0 = (-1 : Int32) then
    some (.inr "java/lang/UnsupportedOperationException", S)
  else
    some (.inl (l0), S)
set_option maxHeartbeats 4000000 in
set_option maxRecDepth 100000 in
theorem S_X_landed {O : qOb9} (hO : okO O) {n : Nat} {M0 : PM} {l0 : Int32} {M : PM} {S : qS} (R : Rp O M S) (H : Fm O M0 M) : Sim (eX eI) O M0 (F_X_landed n l0 M) (G_X_landed O n l0 S) := by
  unfold F_X_landed G_X_landed
  refine sim_if (fun _ => ?_) (fun _ => ?_)
  exact sim_throw (by assumption) (by assumption)
  exact sim_retIx (by assumption) (by assumption)
def G_X_apply_25 (O : qOb9) (n : Nat) (S : qS) : Option ((Int32 ⊕ String) × qS) :=
  some (.inr "java/lang/IllegalArgumentException", S)
set_option maxHeartbeats 4000000 in
set_option maxRecDepth 100000 in
theorem S_X_apply_25 {O : qOb9} (hO : okO O) {n : Nat} {M0 : PM} {M : PM} {S : qS} (R : Rp O M S) (H : Fm O M0 M) : Sim (eX eI) O M0 (F_X_apply_25 n M) (G_X_apply_25 O n S) := by
  unfold F_X_apply_25 G_X_apply_25
  exact sim_throw (by assumption) (by assumption)
def G_X_apply_50 (O : qOb9) (n : Nat) (l0 : Nat) (l1 : Int32) (l2 : Int32) (l3 : Int32) (S : qS) : Option ((Int32 ⊕ String) × qS) :=
  hO 1 O l0 0 (fun v1 =>
  hO 2 O v1 0 (fun v2 =>
  hk 3 O v2 (
  yC (G_XNodes_makeApplication O n v2 l1 l2 l3 S) (fun v4 S3 =>
  tC (G_X_landed O n v4 S3) (fun v6 S5 =>
  some (.inl (v6), S5))))))
set_option maxHeartbeats 4000000 in
set_option maxRecDepth 100000 in
theorem S_X_apply_50 {O : qOb9} (hO : okO O) {n : Nat} {M0 : PM} {l0 : Nat} {l1 : Int32} {l2 : Int32} {l3 : Int32} {M : PM} {S : qS} (R : Rp O M S) (H : Fm O M0 M) : Sim (eX eI) O M0 (F_X_apply_50 n l0 l1 l2 l3 M) (G_X_apply_50 O n l0 l1 l2 l3 S) := by
  unfold F_X_apply_50 G_X_apply_50
  refine sim_gO (by assumption) (fun _ => ?_)
  refine sim_gO (by assumption) (fun _ => ?_)
  refine sim_kO (by assumption) ?_
  refine sim_cI (S_XNodes_makeApplication hO (by assumption) (by assumption)) (fun _ _ _ _ _ => ?_)
  refine sim_tI (S_X_landed hO (by assumption) (by assumption)) (fun _ _ _ _ _ => ?_)
  exact sim_retIx (by assumption) (by assumption)
def G_X_apply_15 (O : qOb9) (n : Nat) (l0 : Nat) (l1 : Int32) (l2 : Int32) (l3 : Int32) (S : qS) : Option ((Int32 ⊕ String) × qS) :=
  if l1 < (0 : Int32) then
    G_X_apply_25 O n S
  else
    if l1 < (8 : Int32) then
      hk 1 O l0 (
      tW (G_X_requireWord O n l0 l2 S) (fun S3 =>
      if l3 = (-1 : Int32) then
        G_X_apply_50 O n l0 l1 l2 l3 S3
      else
        hk 1 O l0 (
        tW (G_X_requireWord O n l0 l3 S3) (fun S5 =>
        G_X_apply_50 O n l0 l1 l2 l3 S5))))
    else
      G_X_apply_25 O n S
set_option maxHeartbeats 4000000 in
set_option maxRecDepth 100000 in
theorem S_X_apply_15 {O : qOb9} (hO : okO O) {n : Nat} {M0 : PM} {l0 : Nat} {l1 : Int32} {l2 : Int32} {l3 : Int32} {M : PM} {S : qS} (R : Rp O M S) (H : Fm O M0 M) : Sim (eX eI) O M0 (F_X_apply_15 n l0 l1 l2 l3 M) (G_X_apply_15 O n l0 l1 l2 l3 S) := by
  unfold F_X_apply_15 G_X_apply_15
  refine sim_if (fun _ => ?_) (fun _ => ?_)
  exact S_X_apply_25 hO (by assumption) (by assumption)
  refine sim_if (fun _ => ?_) (fun _ => ?_)
  refine sim_kO (by assumption) ?_
  refine sim_tV (S_X_requireWord hO (by assumption) (by assumption)) (fun _ _ _ _ => ?_)
  refine sim_if (fun _ => ?_) (fun _ => ?_)
  exact S_X_apply_50 hO (by assumption) (by assumption)
  refine sim_kO (by assumption) ?_
  refine sim_tV (S_X_requireWord hO (by assumption) (by assumption)) (fun _ _ _ _ => ?_)
  exact S_X_apply_50 hO (by assumption) (by assumption)
  exact S_X_apply_25 hO (by assumption) (by assumption)
def G_X_apply (O : qOb9) (n : Nat) (l0 : Nat) (l1 : Int32) (l2 : Int32) (l3 : Int32) (S : qS) : Option ((Int32 ⊕ String) × qS) :=
  hk 1 O l0 (
  tW (G_X_requireNode O n l0 l2 S) (fun S1 =>
  if l3 = (-1 : Int32) then
    G_X_apply_15 O n l0 l1 l2 l3 S1
  else
    hk 1 O l0 (
    tW (G_X_requireNode O n l0 l3 S1) (fun S3 =>
    G_X_apply_15 O n l0 l1 l2 l3 S3))))
set_option maxHeartbeats 4000000 in
set_option maxRecDepth 100000 in
theorem S_X_apply {O : qOb9} (hO : okO O) {n : Nat} {M0 : PM} {l0 : Nat} {l1 : Int32} {l2 : Int32} {l3 : Int32} {M : PM} {S : qS} (R : Rp O M S) (H : Fm O M0 M) : Sim (eX eI) O M0 (F_X_apply n l0 l1 l2 l3 M) (G_X_apply O n l0 l1 l2 l3 S) := by
  unfold F_X_apply G_X_apply
  refine sim_kO (by assumption) ?_
  refine sim_tV (S_X_requireNode hO (by assumption) (by assumption)) (fun _ _ _ _ => ?_)
  refine sim_if (fun _ => ?_) (fun _ => ?_)
  exact S_X_apply_15 hO (by assumption) (by assumption)
  refine sim_kO (by assumption) ?_
  refine sim_tV (S_X_requireNode hO (by assumption) (by assumption)) (fun _ _ _ _ => ?_)
  exact S_X_apply_15 hO (by assumption) (by assumption)
def G_X_equal (O : qOb9) (n : Nat) (l0 : Nat) (l1 : Int32) (l2 : Int32) (S : qS) : Option ((Int32 ⊕ String) × qS) :=
  hk 1 O l0 (
  tW (G_X_requireNode O n l0 l1 S) (fun S1 =>
  hk 1 O l0 (
  tW (G_X_requireNode O n l0 l2 S1) (fun S2 =>
  hk 1 O l0 (
  tW (G_X_requireWord O n l0 l1 S2) (fun S3 =>
  hk 1 O l0 (
  tW (G_X_requireWord O n l0 l2 S3) (fun S4 =>
  hO 1 O l0 0 (fun v5 =>
  hO 2 O v5 0 (fun v6 =>
  hk 3 O v6 (
  yC (G_XNodes_makeEquality O n v6 l1 l2 S4) (fun v8 S7 =>
  tC (G_X_landed O n v8 S7) (fun v10 S9 =>
  some (.inl (v10), S9))))))))))))))
set_option maxHeartbeats 4000000 in
set_option maxRecDepth 100000 in
theorem S_X_equal {O : qOb9} (hO : okO O) {n : Nat} {M0 : PM} {l0 : Nat} {l1 : Int32} {l2 : Int32} {M : PM} {S : qS} (R : Rp O M S) (H : Fm O M0 M) : Sim (eX eI) O M0 (F_X_equal n l0 l1 l2 M) (G_X_equal O n l0 l1 l2 S) := by
  unfold F_X_equal G_X_equal
  refine sim_kO (by assumption) ?_
  refine sim_tV (S_X_requireNode hO (by assumption) (by assumption)) (fun _ _ _ _ => ?_)
  refine sim_kO (by assumption) ?_
  refine sim_tV (S_X_requireNode hO (by assumption) (by assumption)) (fun _ _ _ _ => ?_)
  refine sim_kO (by assumption) ?_
  refine sim_tV (S_X_requireWord hO (by assumption) (by assumption)) (fun _ _ _ _ => ?_)
  refine sim_kO (by assumption) ?_
  refine sim_tV (S_X_requireWord hO (by assumption) (by assumption)) (fun _ _ _ _ => ?_)
  refine sim_gO (by assumption) (fun _ => ?_)
  refine sim_gO (by assumption) (fun _ => ?_)
  refine sim_kO (by assumption) ?_
  refine sim_cI (S_XNodes_makeEquality hO (by assumption) (by assumption)) (fun _ _ _ _ _ => ?_)
  refine sim_tI (S_X_landed hO (by assumption) (by assumption)) (fun _ _ _ _ _ => ?_)
  exact sim_retIx (by assumption) (by assumption)
def G_X_requireTruth (O : qOb9) (n : Nat) (l0 : Nat) (l1 : Int32) (S : qS) : Option ((Unit ⊕ String) × qS) :=
  hO 1 O l0 0 (fun v1 =>
  hO 2 O v1 0 (fun v2 =>
  hk 3 O v2 (
  yC (G_XNodes_isWord O n v2 l1 S) (fun v4 S3 =>
  if v4 = (0 : Int32) then
    some (.inl (), S3)
  else
    some (.inr "java/lang/IllegalArgumentException", S3)))))
set_option maxHeartbeats 4000000 in
set_option maxRecDepth 100000 in
theorem S_X_requireTruth {O : qOb9} (hO : okO O) {n : Nat} {M0 : PM} {l0 : Nat} {l1 : Int32} {M : PM} {S : qS} (R : Rp O M S) (H : Fm O M0 M) : Sim (eX eV) O M0 (F_X_requireTruth n l0 l1 M) (G_X_requireTruth O n l0 l1 S) := by
  unfold F_X_requireTruth G_X_requireTruth
  refine sim_gO (by assumption) (fun _ => ?_)
  refine sim_gO (by assumption) (fun _ => ?_)
  refine sim_kO (by assumption) ?_
  refine sim_cI (S_XNodes_isWord hO (by assumption) (by assumption)) (fun _ _ _ _ _ => ?_)
  refine sim_if (fun _ => ?_) (fun _ => ?_)
  exact sim_retVx (by assumption) (by assumption)
  exact sim_throw (by assumption) (by assumption)
def G_X_not (O : qOb9) (n : Nat) (l0 : Nat) (l1 : Int32) (S : qS) : Option ((Int32 ⊕ String) × qS) :=
  hk 1 O l0 (
  tW (G_X_requireNode O n l0 l1 S) (fun S1 =>
  hk 1 O l0 (
  tW (G_X_requireTruth O n l0 l1 S1) (fun S2 =>
  hO 1 O l0 0 (fun v3 =>
  hO 2 O v3 0 (fun v4 =>
  hk 3 O v4 (
  yC (G_XNodes_makeNot O n v4 l1 S2) (fun v6 S5 =>
  tC (G_X_landed O n v6 S5) (fun v8 S7 =>
  some (.inl (v8), S7))))))))))
set_option maxHeartbeats 4000000 in
set_option maxRecDepth 100000 in
theorem S_X_not {O : qOb9} (hO : okO O) {n : Nat} {M0 : PM} {l0 : Nat} {l1 : Int32} {M : PM} {S : qS} (R : Rp O M S) (H : Fm O M0 M) : Sim (eX eI) O M0 (F_X_not n l0 l1 M) (G_X_not O n l0 l1 S) := by
  unfold F_X_not G_X_not
  refine sim_kO (by assumption) ?_
  refine sim_tV (S_X_requireNode hO (by assumption) (by assumption)) (fun _ _ _ _ => ?_)
  refine sim_kO (by assumption) ?_
  refine sim_tV (S_X_requireTruth hO (by assumption) (by assumption)) (fun _ _ _ _ => ?_)
  refine sim_gO (by assumption) (fun _ => ?_)
  refine sim_gO (by assumption) (fun _ => ?_)
  refine sim_kO (by assumption) ?_
  refine sim_cI (S_XNodes_makeNot hO (by assumption) (by assumption)) (fun _ _ _ _ _ => ?_)
  refine sim_tI (S_X_landed hO (by assumption) (by assumption)) (fun _ _ _ _ _ => ?_)
  exact sim_retIx (by assumption) (by assumption)
def G_X_both (O : qOb9) (n : Nat) (l0 : Nat) (l1 : Int32) (l2 : Int32) (S : qS) : Option ((Int32 ⊕ String) × qS) :=
  hk 1 O l0 (
  tW (G_X_requireNode O n l0 l1 S) (fun S1 =>
  hk 1 O l0 (
  tW (G_X_requireNode O n l0 l2 S1) (fun S2 =>
  hk 1 O l0 (
  tW (G_X_requireTruth O n l0 l1 S2) (fun S3 =>
  hk 1 O l0 (
  tW (G_X_requireTruth O n l0 l2 S3) (fun S4 =>
  hO 1 O l0 0 (fun v5 =>
  hO 2 O v5 0 (fun v6 =>
  hk 3 O v6 (
  yC (G_XNodes_makeBoth O n v6 l1 l2 S4) (fun v8 S7 =>
  tC (G_X_landed O n v8 S7) (fun v10 S9 =>
  some (.inl (v10), S9))))))))))))))
set_option maxHeartbeats 4000000 in
set_option maxRecDepth 100000 in
theorem S_X_both {O : qOb9} (hO : okO O) {n : Nat} {M0 : PM} {l0 : Nat} {l1 : Int32} {l2 : Int32} {M : PM} {S : qS} (R : Rp O M S) (H : Fm O M0 M) : Sim (eX eI) O M0 (F_X_both n l0 l1 l2 M) (G_X_both O n l0 l1 l2 S) := by
  unfold F_X_both G_X_both
  refine sim_kO (by assumption) ?_
  refine sim_tV (S_X_requireNode hO (by assumption) (by assumption)) (fun _ _ _ _ => ?_)
  refine sim_kO (by assumption) ?_
  refine sim_tV (S_X_requireNode hO (by assumption) (by assumption)) (fun _ _ _ _ => ?_)
  refine sim_kO (by assumption) ?_
  refine sim_tV (S_X_requireTruth hO (by assumption) (by assumption)) (fun _ _ _ _ => ?_)
  refine sim_kO (by assumption) ?_
  refine sim_tV (S_X_requireTruth hO (by assumption) (by assumption)) (fun _ _ _ _ => ?_)
  refine sim_gO (by assumption) (fun _ => ?_)
  refine sim_gO (by assumption) (fun _ => ?_)
  refine sim_kO (by assumption) ?_
  refine sim_cI (S_XNodes_makeBoth hO (by assumption) (by assumption)) (fun _ _ _ _ _ => ?_)
  refine sim_tI (S_X_landed hO (by assumption) (by assumption)) (fun _ _ _ _ _ => ?_)
  exact sim_retIx (by assumption) (by assumption)
def G_X_requireSameSort (O : qOb9) (n : Nat) (l0 : Nat) (l1 : Int32) (l2 : Int32) (S : qS) : Option ((Unit ⊕ String) × qS) :=
  hO 1 O l0 0 (fun v1 =>
  hO 2 O v1 0 (fun v2 =>
  hk 3 O v2 (
  yC (G_XNodes_isWord O n v2 l1 S) (fun v4 S3 =>
  hO 1 O l0 0 (fun v5 =>
  hO 2 O v5 0 (fun v6 =>
  hk 3 O v6 (
  yC (G_XNodes_isWord O n v6 l2 S3) (fun v8 S7 =>
  if v4 = v8 then
    some (.inl (), S7)
  else
    some (.inr "java/lang/IllegalArgumentException", S7)))))))))
set_option maxHeartbeats 4000000 in
set_option maxRecDepth 100000 in
theorem S_X_requireSameSort {O : qOb9} (hO : okO O) {n : Nat} {M0 : PM} {l0 : Nat} {l1 : Int32} {l2 : Int32} {M : PM} {S : qS} (R : Rp O M S) (H : Fm O M0 M) : Sim (eX eV) O M0 (F_X_requireSameSort n l0 l1 l2 M) (G_X_requireSameSort O n l0 l1 l2 S) := by
  unfold F_X_requireSameSort G_X_requireSameSort
  refine sim_gO (by assumption) (fun _ => ?_)
  refine sim_gO (by assumption) (fun _ => ?_)
  refine sim_kO (by assumption) ?_
  refine sim_cI (S_XNodes_isWord hO (by assumption) (by assumption)) (fun _ _ _ _ _ => ?_)
  refine sim_gO (by assumption) (fun _ => ?_)
  refine sim_gO (by assumption) (fun _ => ?_)
  refine sim_kO (by assumption) ?_
  refine sim_cI (S_XNodes_isWord hO (by assumption) (by assumption)) (fun _ _ _ _ _ => ?_)
  refine sim_if (fun _ => ?_) (fun _ => ?_)
  exact sim_retVx (by assumption) (by assumption)
  exact sim_throw (by assumption) (by assumption)
def G_X_choice (O : qOb9) (n : Nat) (l0 : Nat) (l1 : Int32) (l2 : Int32) (l3 : Int32) (S : qS) : Option ((Int32 ⊕ String) × qS) :=
  hk 1 O l0 (
  tW (G_X_requireNode O n l0 l1 S) (fun S1 =>
  hk 1 O l0 (
  tW (G_X_requireNode O n l0 l2 S1) (fun S2 =>
  hk 1 O l0 (
  tW (G_X_requireNode O n l0 l3 S2) (fun S3 =>
  hk 1 O l0 (
  tW (G_X_requireTruth O n l0 l1 S3) (fun S4 =>
  hk 1 O l0 (
  tW (G_X_requireSameSort O n l0 l2 l3 S4) (fun S5 =>
  hO 1 O l0 0 (fun v6 =>
  hO 2 O v6 0 (fun v7 =>
  hk 3 O v7 (
  yC (G_XNodes_makeChoice O n v7 l1 l2 l3 S5) (fun v9 S8 =>
  tC (G_X_landed O n v9 S8) (fun v11 S10 =>
  some (.inl (v11), S10))))))))))))))))
set_option maxHeartbeats 4000000 in
set_option maxRecDepth 100000 in
theorem S_X_choice {O : qOb9} (hO : okO O) {n : Nat} {M0 : PM} {l0 : Nat} {l1 : Int32} {l2 : Int32} {l3 : Int32} {M : PM} {S : qS} (R : Rp O M S) (H : Fm O M0 M) : Sim (eX eI) O M0 (F_X_choice n l0 l1 l2 l3 M) (G_X_choice O n l0 l1 l2 l3 S) := by
  unfold F_X_choice G_X_choice
  refine sim_kO (by assumption) ?_
  refine sim_tV (S_X_requireNode hO (by assumption) (by assumption)) (fun _ _ _ _ => ?_)
  refine sim_kO (by assumption) ?_
  refine sim_tV (S_X_requireNode hO (by assumption) (by assumption)) (fun _ _ _ _ => ?_)
  refine sim_kO (by assumption) ?_
  refine sim_tV (S_X_requireNode hO (by assumption) (by assumption)) (fun _ _ _ _ => ?_)
  refine sim_kO (by assumption) ?_
  refine sim_tV (S_X_requireTruth hO (by assumption) (by assumption)) (fun _ _ _ _ => ?_)
  refine sim_kO (by assumption) ?_
  refine sim_tV (S_X_requireSameSort hO (by assumption) (by assumption)) (fun _ _ _ _ => ?_)
  refine sim_gO (by assumption) (fun _ => ?_)
  refine sim_gO (by assumption) (fun _ => ?_)
  refine sim_kO (by assumption) ?_
  refine sim_cI (S_XNodes_makeChoice hO (by assumption) (by assumption)) (fun _ _ _ _ _ => ?_)
  refine sim_tI (S_X_landed hO (by assumption) (by assumption)) (fun _ _ _ _ _ => ?_)
  exact sim_retIx (by assumption) (by assumption)
def G_X_requireElement_15 (O : qOb9) (n : Nat) (S : qS) : Option ((Unit ⊕ String) × qS) :=
  some (.inr "java/lang/IndexOutOfBoundsException", S)
set_option maxHeartbeats 4000000 in
set_option maxRecDepth 100000 in
theorem S_X_requireElement_15 {O : qOb9} (hO : okO O) {n : Nat} {M0 : PM} {M : PM} {S : qS} (R : Rp O M S) (H : Fm O M0 M) : Sim (eX eV) O M0 (F_X_requireElement_15 n M) (G_X_requireElement_15 O n S) := by
  unfold F_X_requireElement_15 G_X_requireElement_15
  exact sim_throw (by assumption) (by assumption)
def G_X_requireElement (O : qOb9) (n : Nat) (l0 : Nat) (l1 : Int32) (S : qS) : Option ((Unit ⊕ String) × qS) :=
  if l1 < (0 : Int32) then
    G_X_requireElement_15 O n S
  else
    hO 1 O l0 0 (fun v2 =>
    hI 2 O S v2 6 (fun v3 =>
    if l1 < v3 then
      some (.inl (), S)
    else
      G_X_requireElement_15 O n S))
set_option maxHeartbeats 4000000 in
set_option maxRecDepth 100000 in
theorem S_X_requireElement {O : qOb9} (hO : okO O) {n : Nat} {M0 : PM} {l0 : Nat} {l1 : Int32} {M : PM} {S : qS} (R : Rp O M S) (H : Fm O M0 M) : Sim (eX eV) O M0 (F_X_requireElement n l0 l1 M) (G_X_requireElement O n l0 l1 S) := by
  unfold F_X_requireElement G_X_requireElement
  refine sim_if (fun _ => ?_) (fun _ => ?_)
  exact S_X_requireElement_15 hO (by assumption) (by assumption)
  refine sim_gO (by assumption) (fun _ => ?_)
  refine sim_gI (by assumption) (fun _ => ?_)
  refine sim_if (fun _ => ?_) (fun _ => ?_)
  exact sim_retVx (by assumption) (by assumption)
  exact S_X_requireElement_15 hO (by assumption) (by assumption)
def G_X_next (O : qOb9) (n : Nat) (l0 : Nat) (l1 : Int32) (l2 : Int32) (S : qS) : Option ((Int32 ⊕ String) × qS) :=
  hk 1 O l0 (
  tW (G_X_requireElement O n l0 l1 S) (fun S1 =>
  hk 1 O l0 (
  tW (G_X_requireNode O n l0 l2 S1) (fun S2 =>
  hO 1 O l0 0 (fun v3 =>
  hA 2 O v3 1 (fun v4 =>
  hl 0 O S2 v4 l1 (fun v5 =>
  hk 1 O l0 (
  tW (G_X_requireSameSort O n l0 v5 l2 S2) (fun S6 =>
  hO 1 O l0 0 (fun v7 =>
  hk 2 O v7 (
  yC (G_XCore_tellNext O n v7 l1 l2 S6) (fun v9 S8 =>
  hzx v9 S8))))))))))))
set_option maxHeartbeats 4000000 in
set_option maxRecDepth 100000 in
theorem S_X_next {O : qOb9} (hO : okO O) {n : Nat} {M0 : PM} {l0 : Nat} {l1 : Int32} {l2 : Int32} {M : PM} {S : qS} (R : Rp O M S) (H : Fm O M0 M) : Sim (eX eI) O M0 (F_X_next n l0 l1 l2 M) (G_X_next O n l0 l1 l2 S) := by
  unfold F_X_next G_X_next
  refine sim_kO (by assumption) ?_
  refine sim_tV (S_X_requireElement hO (by assumption) (by assumption)) (fun _ _ _ _ => ?_)
  refine sim_kO (by assumption) ?_
  refine sim_tV (S_X_requireNode hO (by assumption) (by assumption)) (fun _ _ _ _ => ?_)
  refine sim_gO (by assumption) (fun _ => ?_)
  refine sim_gA (by assumption) (fun _ => ?_)
  refine sim_lI (by assumption) (fun _ => ?_)
  refine sim_kO (by assumption) ?_
  refine sim_tV (S_X_requireSameSort hO (by assumption) (by assumption)) (fun _ _ _ _ => ?_)
  refine sim_gO (by assumption) (fun _ => ?_)
  refine sim_kO (by assumption) ?_
  refine sim_cI (S_XCore_tellNext hO (by assumption) (by assumption)) (fun _ _ _ _ _ => ?_)
  exact sim_rZx (by assumption) (by assumption)
def G_X_requireNoFetch (O : qOb9) (n : Nat) (l0 : Nat) (l1 : Int32) (S : qS) : Option ((Unit ⊕ String) × qS) :=
  hO 1 O l0 0 (fun v1 =>
  hk 2 O v1 (
  yC (G_XCore_hasFetch O n v1 l1 S) (fun v3 S2 =>
  if v3 = (0 : Int32) then
    some (.inl (), S2)
  else
    some (.inr "java/lang/IllegalArgumentException", S2))))
set_option maxHeartbeats 4000000 in
set_option maxRecDepth 100000 in
theorem S_X_requireNoFetch {O : qOb9} (hO : okO O) {n : Nat} {M0 : PM} {l0 : Nat} {l1 : Int32} {M : PM} {S : qS} (R : Rp O M S) (H : Fm O M0 M) : Sim (eX eV) O M0 (F_X_requireNoFetch n l0 l1 M) (G_X_requireNoFetch O n l0 l1 S) := by
  unfold F_X_requireNoFetch G_X_requireNoFetch
  refine sim_gO (by assumption) (fun _ => ?_)
  refine sim_kO (by assumption) ?_
  refine sim_cI (S_XCore_hasFetch hO (by assumption) (by assumption)) (fun _ _ _ _ _ => ?_)
  refine sim_if (fun _ => ?_) (fun _ => ?_)
  exact sim_retVx (by assumption) (by assumption)
  exact sim_throw (by assumption) (by assumption)
def G_X_plain (O : qOb9) (n : Nat) (l0 : Nat) (l1 : Int32) (l2 : Int32) (S : qS) : Option ((Int32 ⊕ String) × qS) :=
  hk 1 O l0 (
  tW (G_X_requireElement O n l0 l1 S) (fun S1 =>
  hk 1 O l0 (
  tW (G_X_requireNode O n l0 l2 S1) (fun S2 =>
  hO 1 O l0 0 (fun v3 =>
  hA 2 O v3 1 (fun v4 =>
  hl 0 O S2 v4 l1 (fun v5 =>
  hk 1 O l0 (
  tW (G_X_requireSameSort O n l0 v5 l2 S2) (fun S6 =>
  hk 1 O l0 (
  tW (G_X_requireNoFetch O n l0 l2 S6) (fun S7 =>
  hO 1 O l0 0 (fun v8 =>
  hk 2 O v8 (
  yC (G_XCore_tellPlain O n v8 l1 l2 S7) (fun v10 S9 =>
  hzx v10 S9))))))))))))))
set_option maxHeartbeats 4000000 in
set_option maxRecDepth 100000 in
theorem S_X_plain {O : qOb9} (hO : okO O) {n : Nat} {M0 : PM} {l0 : Nat} {l1 : Int32} {l2 : Int32} {M : PM} {S : qS} (R : Rp O M S) (H : Fm O M0 M) : Sim (eX eI) O M0 (F_X_plain n l0 l1 l2 M) (G_X_plain O n l0 l1 l2 S) := by
  unfold F_X_plain G_X_plain
  refine sim_kO (by assumption) ?_
  refine sim_tV (S_X_requireElement hO (by assumption) (by assumption)) (fun _ _ _ _ => ?_)
  refine sim_kO (by assumption) ?_
  refine sim_tV (S_X_requireNode hO (by assumption) (by assumption)) (fun _ _ _ _ => ?_)
  refine sim_gO (by assumption) (fun _ => ?_)
  refine sim_gA (by assumption) (fun _ => ?_)
  refine sim_lI (by assumption) (fun _ => ?_)
  refine sim_kO (by assumption) ?_
  refine sim_tV (S_X_requireSameSort hO (by assumption) (by assumption)) (fun _ _ _ _ => ?_)
  refine sim_kO (by assumption) ?_
  refine sim_tV (S_X_requireNoFetch hO (by assumption) (by assumption)) (fun _ _ _ _ => ?_)
  refine sim_gO (by assumption) (fun _ => ?_)
  refine sim_kO (by assumption) ?_
  refine sim_cI (S_XCore_tellPlain hO (by assumption) (by assumption)) (fun _ _ _ _ _ => ?_)
  exact sim_rZx (by assumption) (by assumption)
def G_X_invariant (O : qOb9) (n : Nat) (l0 : Nat) (l1 : Int32) (S : qS) : Option ((Int32 ⊕ String) × qS) :=
  hk 1 O l0 (
  tW (G_X_requireNode O n l0 l1 S) (fun S1 =>
  hk 1 O l0 (
  tW (G_X_requireTruth O n l0 l1 S1) (fun S2 =>
  hk 1 O l0 (
  tW (G_X_requireNoFetch O n l0 l1 S2) (fun S3 =>
  hO 1 O l0 0 (fun v4 =>
  hI 2 O S3 v4 8 (fun v5 =>
  if v5 < (8 : Int32) then
    hO 1 O l0 0 (fun v7 =>
    hk 2 O v7 (
    yC (G_XCore_addInvariant O n v7 l1 S3) (fun v9 S8 =>
    some (.inl (v9), S8))))
  else
    some (.inr "java/lang/IllegalStateException", S3)))))))))
set_option maxHeartbeats 4000000 in
set_option maxRecDepth 100000 in
theorem S_X_invariant {O : qOb9} (hO : okO O) {n : Nat} {M0 : PM} {l0 : Nat} {l1 : Int32} {M : PM} {S : qS} (R : Rp O M S) (H : Fm O M0 M) : Sim (eX eI) O M0 (F_X_invariant n l0 l1 M) (G_X_invariant O n l0 l1 S) := by
  unfold F_X_invariant G_X_invariant
  refine sim_kO (by assumption) ?_
  refine sim_tV (S_X_requireNode hO (by assumption) (by assumption)) (fun _ _ _ _ => ?_)
  refine sim_kO (by assumption) ?_
  refine sim_tV (S_X_requireTruth hO (by assumption) (by assumption)) (fun _ _ _ _ => ?_)
  refine sim_kO (by assumption) ?_
  refine sim_tV (S_X_requireNoFetch hO (by assumption) (by assumption)) (fun _ _ _ _ => ?_)
  refine sim_gO (by assumption) (fun _ => ?_)
  refine sim_gI (by assumption) (fun _ => ?_)
  refine sim_if (fun _ => ?_) (fun _ => ?_)
  refine sim_gO (by assumption) (fun _ => ?_)
  refine sim_kO (by assumption) ?_
  refine sim_cI (S_XCore_addInvariant hO (by assumption) (by assumption)) (fun _ _ _ _ _ => ?_)
  exact sim_retIx (by assumption) (by assumption)
  exact sim_throw (by assumption) (by assumption)
def G_X_run_10 (O : qOb9) (n : Nat) (S : qS) : Option ((Int32 ⊕ String) × qS) :=
  some (.inr "java/lang/IllegalArgumentException", S)
set_option maxHeartbeats 4000000 in
set_option maxRecDepth 100000 in
theorem S_X_run_10 {O : qOb9} (hO : okO O) {n : Nat} {M0 : PM} {M : PM} {S : qS} (R : Rp O M S) (H : Fm O M0 M) : Sim (eX eI) O M0 (F_X_run_10 n M) (G_X_run_10 O n S) := by
  unfold F_X_run_10 G_X_run_10
  exact sim_throw (by assumption) (by assumption)
def G_X_run (O : qOb9) (n : Nat) (l0 : Nat) (l1 : Int32) (S : qS) : Option ((Int32 ⊕ String) × qS) :=
  if l1 < (0 : Int32) then
    G_X_run_10 O n S
  else
    if l1 ≤ (8 : Int32) then
      hO 1 O l0 2 (fun v3 =>
      hO 1 O l0 0 (fun v4 =>
      hO 1 O l0 1 (fun v5 =>
      hk 6 O v3 (
      yV (G_XProver_askEquation O n v3 v4 l1 v5 S) (fun S6 =>
      hO 1 O l0 2 (fun v7 =>
      hO 1 O l0 1 (fun v8 =>
      hk 6 O v7 (
      yV (G_XProver_decide O n v7 v8 S6) (fun S9 =>
      hO 1 O l0 1 (fun v10 =>
      hI 4 O S9 v10 1 (fun v11 =>
      some (.inl (v11), S9))))))))))))
    else
      G_X_run_10 O n S
set_option maxHeartbeats 4000000 in
set_option maxRecDepth 100000 in
theorem S_X_run {O : qOb9} (hO : okO O) {n : Nat} {M0 : PM} {l0 : Nat} {l1 : Int32} {M : PM} {S : qS} (R : Rp O M S) (H : Fm O M0 M) : Sim (eX eI) O M0 (F_X_run n l0 l1 M) (G_X_run O n l0 l1 S) := by
  unfold F_X_run G_X_run
  refine sim_if (fun _ => ?_) (fun _ => ?_)
  exact S_X_run_10 hO (by assumption) (by assumption)
  refine sim_if (fun _ => ?_) (fun _ => ?_)
  refine sim_gO (by assumption) (fun _ => ?_)
  refine sim_gO (by assumption) (fun _ => ?_)
  refine sim_gO (by assumption) (fun _ => ?_)
  refine sim_kO (by assumption) ?_
  refine sim_cV (S_XProver_askEquation hO (by assumption) (by assumption)) (fun _ _ _ _ => ?_)
  refine sim_gO (by assumption) (fun _ => ?_)
  refine sim_gO (by assumption) (fun _ => ?_)
  refine sim_kO (by assumption) ?_
  refine sim_cV (S_XProver_decide hO (by assumption) (by assumption)) (fun _ _ _ _ => ?_)
  refine sim_gO (by assumption) (fun _ => ?_)
  refine sim_gI (by assumption) (fun _ => ?_)
  exact sim_retIx (by assumption) (by assumption)
  exact S_X_run_10 hO (by assumption) (by assumption)
def G_X_kept_15 (O : qOb9) (n : Nat) (S : qS) : Option ((Int32 ⊕ String) × qS) :=
  some (.inr "java/lang/IndexOutOfBoundsException", S)
set_option maxHeartbeats 4000000 in
set_option maxRecDepth 100000 in
theorem S_X_kept_15 {O : qOb9} (hO : okO O) {n : Nat} {M0 : PM} {M : PM} {S : qS} (R : Rp O M S) (H : Fm O M0 M) : Sim (eX eI) O M0 (F_X_kept_15 n M) (G_X_kept_15 O n S) := by
  unfold F_X_kept_15 G_X_kept_15
  exact sim_throw (by assumption) (by assumption)
def G_X_kept (O : qOb9) (n : Nat) (l0 : Nat) (l1 : Int32) (S : qS) : Option ((Int32 ⊕ String) × qS) :=
  if l1 < (0 : Int32) then
    G_X_kept_15 O n S
  else
    hO 1 O l0 0 (fun v2 =>
    hI 2 O S v2 8 (fun v3 =>
    if l1 < v3 then
      hO 1 O l0 2 (fun v5 =>
      hO 1 O l0 0 (fun v6 =>
      hO 1 O l0 1 (fun v7 =>
      hk 6 O v5 (
      yV (G_XProver_askKept O n v5 v6 l1 v7 S) (fun S8 =>
      hO 1 O l0 2 (fun v9 =>
      hO 1 O l0 1 (fun v10 =>
      hk 6 O v9 (
      yV (G_XProver_decide O n v9 v10 S8) (fun S11 =>
      hO 1 O l0 1 (fun v12 =>
      hI 4 O S11 v12 1 (fun v13 =>
      some (.inl (v13), S11))))))))))))
    else
      G_X_kept_15 O n S))
set_option maxHeartbeats 4000000 in
set_option maxRecDepth 100000 in
theorem S_X_kept {O : qOb9} (hO : okO O) {n : Nat} {M0 : PM} {l0 : Nat} {l1 : Int32} {M : PM} {S : qS} (R : Rp O M S) (H : Fm O M0 M) : Sim (eX eI) O M0 (F_X_kept n l0 l1 M) (G_X_kept O n l0 l1 S) := by
  unfold F_X_kept G_X_kept
  refine sim_if (fun _ => ?_) (fun _ => ?_)
  exact S_X_kept_15 hO (by assumption) (by assumption)
  refine sim_gO (by assumption) (fun _ => ?_)
  refine sim_gI (by assumption) (fun _ => ?_)
  refine sim_if (fun _ => ?_) (fun _ => ?_)
  refine sim_gO (by assumption) (fun _ => ?_)
  refine sim_gO (by assumption) (fun _ => ?_)
  refine sim_gO (by assumption) (fun _ => ?_)
  refine sim_kO (by assumption) ?_
  refine sim_cV (S_XProver_askKept hO (by assumption) (by assumption)) (fun _ _ _ _ => ?_)
  refine sim_gO (by assumption) (fun _ => ?_)
  refine sim_gO (by assumption) (fun _ => ?_)
  refine sim_kO (by assumption) ?_
  refine sim_cV (S_XProver_decide hO (by assumption) (by assumption)) (fun _ _ _ _ => ?_)
  refine sim_gO (by assumption) (fun _ => ?_)
  refine sim_gI (by assumption) (fun _ => ?_)
  exact sim_retIx (by assumption) (by assumption)
  exact S_X_kept_15 hO (by assumption) (by assumption)
def G_X_requireFailure (O : qOb9) (n : Nat) (l0 : Nat) (S : qS) : Option ((Unit ⊕ String) × qS) :=
  hO 1 O l0 1 (fun v1 =>
  hI 4 O S v1 1 (fun v2 =>
  if v2 = (0 : Int32) then
    some (.inl (), S)
  else
    some (.inr "java/lang/IllegalStateException", S)))
set_option maxHeartbeats 4000000 in
set_option maxRecDepth 100000 in
theorem S_X_requireFailure {O : qOb9} (hO : okO O) {n : Nat} {M0 : PM} {l0 : Nat} {M : PM} {S : qS} (R : Rp O M S) (H : Fm O M0 M) : Sim (eX eV) O M0 (F_X_requireFailure n l0 M) (G_X_requireFailure O n l0 S) := by
  unfold F_X_requireFailure G_X_requireFailure
  refine sim_gO (by assumption) (fun _ => ?_)
  refine sim_gI (by assumption) (fun _ => ?_)
  refine sim_if (fun _ => ?_) (fun _ => ?_)
  exact sim_retVx (by assumption) (by assumption)
  exact sim_throw (by assumption) (by assumption)
def G_X_witness_32 (O : qOb9) (n : Nat) (S : qS) : Option ((Int32 ⊕ String) × qS) :=
  some (.inr "java/lang/IndexOutOfBoundsException", S)
set_option maxHeartbeats 4000000 in
set_option maxRecDepth 100000 in
theorem S_X_witness_32 {O : qOb9} (hO : okO O) {n : Nat} {M0 : PM} {M : PM} {S : qS} (R : Rp O M S) (H : Fm O M0 M) : Sim (eX eI) O M0 (F_X_witness_32 n M) (G_X_witness_32 O n S) := by
  unfold F_X_witness_32 G_X_witness_32
  exact sim_throw (by assumption) (by assumption)
def G_X_witness (O : qOb9) (n : Nat) (l0 : Nat) (l1 : Int32) (S : qS) : Option ((Int32 ⊕ String) × qS) :=
  hk 1 O l0 (
  tW (G_X_requireFailure O n l0 S) (fun S1 =>
  if l1 = (-1 : Int32) then
    hO 1 O l0 1 (fun v10 =>
    hI 4 O S1 v10 3 (fun v11 =>
    some (.inl (v11), S1)))
  else
    if l1 < (0 : Int32) then
      G_X_witness_32 O n S1
    else
      hO 1 O l0 1 (fun v4 =>
      hI 4 O S1 v4 2 (fun v5 =>
      if l1 < v5 then
        hO 1 O l0 1 (fun v7 =>
        hA 4 O v7 0 (fun v8 =>
        hl 0 O S1 v8 l1 (fun v9 =>
        some (.inl (v9), S1))))
      else
        G_X_witness_32 O n S1))))
set_option maxHeartbeats 4000000 in
set_option maxRecDepth 100000 in
theorem S_X_witness {O : qOb9} (hO : okO O) {n : Nat} {M0 : PM} {l0 : Nat} {l1 : Int32} {M : PM} {S : qS} (R : Rp O M S) (H : Fm O M0 M) : Sim (eX eI) O M0 (F_X_witness n l0 l1 M) (G_X_witness O n l0 l1 S) := by
  unfold F_X_witness G_X_witness
  refine sim_kO (by assumption) ?_
  refine sim_tV (S_X_requireFailure hO (by assumption) (by assumption)) (fun _ _ _ _ => ?_)
  refine sim_if (fun _ => ?_) (fun _ => ?_)
  refine sim_gO (by assumption) (fun _ => ?_)
  refine sim_gI (by assumption) (fun _ => ?_)
  exact sim_retIx (by assumption) (by assumption)
  refine sim_if (fun _ => ?_) (fun _ => ?_)
  exact S_X_witness_32 hO (by assumption) (by assumption)
  refine sim_gO (by assumption) (fun _ => ?_)
  refine sim_gI (by assumption) (fun _ => ?_)
  refine sim_if (fun _ => ?_) (fun _ => ?_)
  refine sim_gO (by assumption) (fun _ => ?_)
  refine sim_gA (by assumption) (fun _ => ?_)
  refine sim_lI (by assumption) (fun _ => ?_)
  exact sim_retIx (by assumption) (by assumption)
  exact S_X_witness_32 hO (by assumption) (by assumption)
