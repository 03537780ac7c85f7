def G_XSearch_withInvariants_59 (O : qOb9) (n : Nat) (rec6 : Nat → Int32 → Int64 → Int32 → qS → Option (Int64 × qS)) (l0 : Nat) (l1 : Int32) (l4 : Int64) (l6 : Int32) (S : qS) : Option (Int64 × qS) :=
  hB (l6 + (1 : Int32)) (fun v1 =>
  rec6 l0 l1 l4 v1 S)
set_option maxHeartbeats 4000000 in
set_option maxRecDepth 100000 in
theorem S_XSearch_withInvariants_59 {O : qOb9} (hO : okO O) {n : Nat} {M0 : PM} {rec6 : Nat → Int32 → Int64 → Int32 → PM → qO} {grec6 : Nat → Int32 → Int64 → Int32 → qS → Option (Int64 × qS)} (hrec6 : ∀ (l0 : Nat) (l1 : Int32) (l4 : Int64) (l6 : Int32) (M : PM) (S : qS), Rp O M S → Fm O M0 M → Sim eL O M0 (rec6 l0 l1 l4 l6 M) (grec6 l0 l1 l4 l6 S)) {l0 : Nat} {l1 : Int32} {l4 : Int64} {l6 : Int32} {M : PM} {S : qS} (R : Rp O M S) (H : Fm O M0 M) : Sim eL O M0 (F_XSearch_withInvariants_59 n rec6 l0 l1 l4 l6 M) (G_XSearch_withInvariants_59 O n grec6 l0 l1 l4 l6 S) := by
  unfold F_XSearch_withInvariants_59 G_XSearch_withInvariants_59
  refine sim_bI (fun _ => ?_)
  exact hrec6 _ _ _ _ _ _ (by assumption) (by assumption)
def G_XSearch_withInvariants_6 (O : qOb9) (n : Nat) : Nat → Nat → Int32 → Int64 → Int32 → qS → Option (Int64 × qS)
  | 0, _, _, _, _, _ => none
  | f + 1, l0, l1, l4, l6, S =>
    hO 7 O l0 1 (fun v1 =>
    hI 6 O S v1 3 (fun v2 =>
    if v2 ≤ l6 then
      some (l4, S)
    else
      hA 7 O l0 6 (fun v4 =>
      hO 7 O l0 1 (fun v5 =>
      hA 6 O v5 0 (fun v6 =>
      hl 0 O S v6 l6 (fun v7 =>
      hl 0 O S v4 v7 (fun v8 =>
      if v8 = l1 then
        hO 7 O l0 2 (fun v10 =>
        hO 7 O l0 1 (fun v11 =>
        hA 6 O v11 0 (fun v12 =>
        hl 0 O S v12 l6 (fun v13 =>
        hk 4 O v10 (
        yC (G_XPlanes_truthOf O n v10 v13 S) (fun v15 S14 =>
        hB (l4 &&& v15) (fun v16 =>
        G_XSearch_withInvariants_59 O n (G_XSearch_withInvariants_6 O n f) l0 l1 v16 l6 S14)))))))
      else
        G_XSearch_withInvariants_59 O n (G_XSearch_withInvariants_6 O n f) l0 l1 l4 l6 S)))))))
set_option maxHeartbeats 4000000 in
set_option maxRecDepth 100000 in
theorem S_XSearch_withInvariants_6 {O : qOb9} (hO : okO O) {n : Nat} {M0 : PM} : ∀ (f : Nat) (l0 : Nat) (l1 : Int32) (l4 : Int64) (l6 : Int32) (M : PM) (S : qS), Rp O M S → Fm O M0 M → Sim eL O M0 (F_XSearch_withInvariants_6 n f l0 l1 l4 l6 M) (G_XSearch_withInvariants_6 O n f l0 l1 l4 l6 S) := by
  intro f
  induction f with
  | zero => intro l0 l1 l4 l6 M S _ _; rw [G_XSearch_withInvariants_6]; exact sim_none
  | succ f ih =>
    intro l0 l1 l4 l6 M S R H
    rw [F_XSearch_withInvariants_6, G_XSearch_withInvariants_6]
    refine sim_gO (by assumption) (fun _ => ?_)
    refine sim_gI (by assumption) (fun _ => ?_)
    refine sim_if (fun _ => ?_) (fun _ => ?_)
    exact sim_retL (by assumption) (by assumption)
    refine sim_gA (by assumption) (fun _ => ?_)
    refine sim_gO (by assumption) (fun _ => ?_)
    refine sim_gA (by assumption) (fun _ => ?_)
    refine sim_lI (by assumption) (fun _ => ?_)
    refine sim_lI (by assumption) (fun _ => ?_)
    refine sim_if (fun _ => ?_) (fun _ => ?_)
    refine sim_gO (by assumption) (fun _ => ?_)
    refine sim_gO (by assumption) (fun _ => ?_)
    refine sim_gA (by assumption) (fun _ => ?_)
    refine sim_lI (by assumption) (fun _ => ?_)
    refine sim_kO (by assumption) ?_
    refine sim_cL (S_XPlanes_truthOf hO (by assumption) (by assumption)) (fun _ _ _ _ _ => ?_)
    refine sim_bL (fun _ => ?_)
    exact S_XSearch_withInvariants_59 hO ih (by assumption) (by assumption)
    exact S_XSearch_withInvariants_59 hO ih (by assumption) (by assumption)
def G_XSearch_withInvariants (O : qOb9) (n : Nat) (l0 : Nat) (l1 : Int32) (l2 : Int64) (S : qS) : Option (Int64 × qS) :=
  G_XSearch_withInvariants_6 O n n l0 l1 l2 (0 : Int32) S
set_option maxHeartbeats 4000000 in
set_option maxRecDepth 100000 in
theorem S_XSearch_withInvariants {O : qOb9} (hO : okO O) {n : Nat} {M0 : PM} {l0 : Nat} {l1 : Int32} {l2 : Int64} {M : PM} {S : qS} (R : Rp O M S) (H : Fm O M0 M) : Sim eL O M0 (F_XSearch_withInvariants n l0 l1 l2 M) (G_XSearch_withInvariants O n l0 l1 l2 S) := by
  unfold F_XSearch_withInvariants G_XSearch_withInvariants
  exact S_XSearch_withInvariants_6 hO _ _ _ _ _ _ _ (by assumption) (by assumption)
def G_JLong_bitCount (O : qOb9) (n : Nat) (l0 : Int64) (S : qS) : Option (Int32 × qS) :=
  hB (l0 - (((l0.toUInt64 >>> ((1 : Int32).toInt64.toUInt64 &&& Int64.toUInt64 63)).toInt64) &&& (6148914691236517205 : Int64))) (fun v1 =>
  hB ((v1 &&& (3689348814741910323 : Int64)) + (((v1.toUInt64 >>> ((2 : Int32).toInt64.toUInt64 &&& Int64.toUInt64 63)).toInt64) &&& (3689348814741910323 : Int64))) (fun v2 =>
  hB ((v2 + ((v2.toUInt64 >>> ((4 : Int32).toInt64.toUInt64 &&& Int64.toUInt64 63)).toInt64)) &&& (1085102592571150095 : Int64)) (fun v3 =>
  hB (v3 + ((v3.toUInt64 >>> ((8 : Int32).toInt64.toUInt64 &&& Int64.toUInt64 63)).toInt64)) (fun v4 =>
  hB (v4 + ((v4.toUInt64 >>> ((16 : Int32).toInt64.toUInt64 &&& Int64.toUInt64 63)).toInt64)) (fun v5 =>
  hB (v5 + ((v5.toUInt64 >>> ((32 : Int32).toInt64.toUInt64 &&& Int64.toUInt64 63)).toInt64)) (fun v6 =>
  some ((v6.toInt32 &&& (127 : Int32)), S)))))))
set_option maxHeartbeats 4000000 in
set_option maxRecDepth 100000 in
theorem S_JLong_bitCount {O : qOb9} (hO : okO O) {n : Nat} {M0 : PM} {l0 : Int64} {M : PM} {S : qS} (R : Rp O M S) (H : Fm O M0 M) : Sim eI O M0 (F_JLong_bitCount n l0 M) (G_JLong_bitCount O n l0 S) := by
  unfold F_JLong_bitCount G_JLong_bitCount
  refine sim_bL (fun _ => ?_)
  refine sim_bL (fun _ => ?_)
  refine sim_bL (fun _ => ?_)
  refine sim_bL (fun _ => ?_)
  refine sim_bL (fun _ => ?_)
  refine sim_bL (fun _ => ?_)
  exact sim_retI (by assumption) (by assumption)
def G_XSearch_lowestClaim_2 (O : qOb9) (n : Nat) : Nat → Nat → Int32 → Int32 → qS → Option (Int32 × qS)
  | 0, _, _, _, _ => none
  | f + 1, l0, l1, l2, S =>
    hO 7 O l0 1 (fun v1 =>
    hI 6 O S v1 4 (fun v2 =>
    if v2 ≤ l2 then
      hO 7 O l0 1 (fun v4 =>
      hI 6 O S v4 4 (fun v5 =>
      some ((v5 - (1 : Int32)), S)))
    else
      hO 7 O l0 2 (fun v6 =>
      hO 7 O l0 1 (fun v7 =>
      hA 6 O v7 1 (fun v8 =>
      hl 0 O S v8 l2 (fun v9 =>
      hk 4 O v6 (
      yC (G_XPlanes_truthOf O n v6 v9 S) (fun v11 S10 =>
      if (lg_cmp (((v11.toUInt64 >>> (l1.toInt64.toUInt64 &&& Int64.toUInt64 63)).toInt64) &&& (1 : Int64)) (1 : Int64)) = (0 : Int32) then
        some (l2, S10)
      else
        hB (l2 + (1 : Int32)) (fun v13 =>
        (G_XSearch_lowestClaim_2 O n f) l0 l1 v13 S10)))))))))
set_option maxHeartbeats 4000000 in
set_option maxRecDepth 100000 in
theorem S_XSearch_lowestClaim_2 {O : qOb9} (hO : okO O) {n : Nat} {M0 : PM} : ∀ (f : Nat) (l0 : Nat) (l1 : Int32) (l2 : Int32) (M : PM) (S : qS), Rp O M S → Fm O M0 M → Sim eI O M0 (F_XSearch_lowestClaim_2 n f l0 l1 l2 M) (G_XSearch_lowestClaim_2 O n f l0 l1 l2 S) := by
  intro f
  induction f with
  | zero => intro l0 l1 l2 M S _ _; rw [G_XSearch_lowestClaim_2]; exact sim_none
  | succ f ih =>
    intro l0 l1 l2 M S R H
    rw [F_XSearch_lowestClaim_2, G_XSearch_lowestClaim_2]
    refine sim_gO (by assumption) (fun _ => ?_)
    refine sim_gI (by assumption) (fun _ => ?_)
    refine sim_if (fun _ => ?_) (fun _ => ?_)
    refine sim_gO (by assumption) (fun _ => ?_)
    refine sim_gI (by assumption) (fun _ => ?_)
    exact sim_retI (by assumption) (by assumption)
    refine sim_gO (by assumption) (fun _ => ?_)
    refine sim_gO (by assumption) (fun _ => ?_)
    refine sim_gA (by assumption) (fun _ => ?_)
    refine sim_lI (by assumption) (fun _ => ?_)
    refine sim_kO (by assumption) ?_
    refine sim_cL (S_XPlanes_truthOf hO (by assumption) (by assumption)) (fun _ _ _ _ _ => ?_)
    refine sim_if (fun _ => ?_) (fun _ => ?_)
    exact sim_retI (by assumption) (by assumption)
    refine sim_bI (fun _ => ?_)
    exact ih _ _ _ _ _ (by assumption) (by assumption)
def G_XSearch_lowestClaim (O : qOb9) (n : Nat) (l0 : Nat) (l1 : Int32) (S : qS) : Option (Int32 × qS) :=
  G_XSearch_lowestClaim_2 O n n l0 l1 (0 : Int32) S
set_option maxHeartbeats 4000000 in
set_option maxRecDepth 100000 in
theorem S_XSearch_lowestClaim {O : qOb9} (hO : okO O) {n : Nat} {M0 : PM} {l0 : Nat} {l1 : Int32} {M : PM} {S : qS} (R : Rp O M S) (H : Fm O M0 M) : Sim eI O M0 (F_XSearch_lowestClaim n l0 l1 M) (G_XSearch_lowestClaim O n l0 l1 S) := by
  unfold F_XSearch_lowestClaim G_XSearch_lowestClaim
  exact S_XSearch_lowestClaim_2 hO _ _ _ _ _ _ (by assumption) (by assumption)
def G_XSearch_statesOfUse_38 (O : qOb9) (n : Nat) (s0 : Int32) (S : qS) : Option (Int64 × qS) :=
  yC (G_XSearch_statesBelow O n s0 S) (fun v2 S1 =>
  some (v2, S1))
set_option maxHeartbeats 4000000 in
set_option maxRecDepth 100000 in
theorem S_XSearch_statesOfUse_38 {O : qOb9} (hO : okO O) {n : Nat} {M0 : PM} {s0 : Int32} {M : PM} {S : qS} (R : Rp O M S) (H : Fm O M0 M) : Sim eL O M0 (F_XSearch_statesOfUse_38 n s0 M) (G_XSearch_statesOfUse_38 O n s0 S) := by
  unfold F_XSearch_statesOfUse_38 G_XSearch_statesOfUse_38
  refine sim_cL (S_XSearch_statesBelow hO (by assumption) (by assumption)) (fun _ _ _ _ _ => ?_)
  exact sim_retL (by assumption) (by assumption)
def G_XSearch_statesOfUse_34 (O : qOb9) (n : Nat) (l0 : Nat) (S : qS) : Option (Int64 × qS) :=
  hI 7 O S l0 13 (fun v1 =>
  G_XSearch_statesOfUse_38 O n v1 S)
set_option maxHeartbeats 4000000 in
set_option maxRecDepth 100000 in
theorem S_XSearch_statesOfUse_34 {O : qOb9} (hO : okO O) {n : Nat} {M0 : PM} {l0 : Nat} {M : PM} {S : qS} (R : Rp O M S) (H : Fm O M0 M) : Sim eL O M0 (F_XSearch_statesOfUse_34 n l0 M) (G_XSearch_statesOfUse_34 O n l0 S) := by
  unfold F_XSearch_statesOfUse_34 G_XSearch_statesOfUse_34
  refine sim_gI (by assumption) (fun _ => ?_)
  exact S_XSearch_statesOfUse_38 hO (by assumption) (by assumption)
def G_XSearch_statesOfUse_13 (O : qOb9) (n : Nat) (l0 : Nat) (s0 : Int32) (S : qS) : Option (Int64 × qS) :=
  if s0 = (0 : Int32) then
    G_XSearch_statesOfUse_34 O n l0 S
  else
    hI 7 O S l0 14 (fun v2 =>
    if v2 ≤ (0 : Int32) then
      G_XSearch_statesOfUse_34 O n l0 S
    else
      hI 7 O S l0 13 (fun v4 =>
      G_XSearch_statesOfUse_38 O n (v4 + (1 : Int32)) S))
set_option maxHeartbeats 4000000 in
set_option maxRecDepth 100000 in
theorem S_XSearch_statesOfUse_13 {O : qOb9} (hO : okO O) {n : Nat} {M0 : PM} {l0 : Nat} {s0 : Int32} {M : PM} {S : qS} (R : Rp O M S) (H : Fm O M0 M) : Sim eL O M0 (F_XSearch_statesOfUse_13 n l0 s0 M) (G_XSearch_statesOfUse_13 O n l0 s0 S) := by
  unfold F_XSearch_statesOfUse_13 G_XSearch_statesOfUse_13
  refine sim_if (fun _ => ?_) (fun _ => ?_)
  exact S_XSearch_statesOfUse_34 hO (by assumption) (by assumption)
  refine sim_gI (by assumption) (fun _ => ?_)
  refine sim_if (fun _ => ?_) (fun _ => ?_)
  exact S_XSearch_statesOfUse_34 hO (by assumption) (by assumption)
  refine sim_gI (by assumption) (fun _ => ?_)
  exact S_XSearch_statesOfUse_38 hO (by assumption) (by assumption)
def G_XSearch_statesOfUse (O : qOb9) (n : Nat) (l0 : Nat) (l1 : Int32) (S : qS) : Option (Int64 × qS) :=
  hI 7 O S l0 12 (fun v1 =>
  if l1 < v1 then
    G_XSearch_statesOfUse_13 O n l0 (0 : Int32) S
  else
    G_XSearch_statesOfUse_13 O n l0 (1 : Int32) S)
set_option maxHeartbeats 4000000 in
set_option maxRecDepth 100000 in
theorem S_XSearch_statesOfUse {O : qOb9} (hO : okO O) {n : Nat} {M0 : PM} {l0 : Nat} {l1 : Int32} {M : PM} {S : qS} (R : Rp O M S) (H : Fm O M0 M) : Sim eL O M0 (F_XSearch_statesOfUse n l0 l1 M) (G_XSearch_statesOfUse O n l0 l1 S) := by
  unfold F_XSearch_statesOfUse G_XSearch_statesOfUse
  refine sim_gI (by assumption) (fun _ => ?_)
  refine sim_if (fun _ => ?_) (fun _ => ?_)
  exact S_XSearch_statesOfUse_13 hO (by assumption) (by assumption)
  exact S_XSearch_statesOfUse_13 hO (by assumption) (by assumption)
def G_XSearch_sameArguments_71 (O : qOb9) (n : Nat) (s0 : Int64) (S : qS) : Option (Int64 × qS) :=
  some (s0, S)
set_option maxHeartbeats 4000000 in
set_option maxRecDepth 100000 in
theorem S_XSearch_sameArguments_71 {O : qOb9} (hO : okO O) {n : Nat} {M0 : PM} {s0 : Int64} {M : PM} {S : qS} (R : Rp O M S) (H : Fm O M0 M) : Sim eL O M0 (F_XSearch_sameArguments_71 n s0 M) (G_XSearch_sameArguments_71 O n s0 S) := by
  unfold F_XSearch_sameArguments_71 G_XSearch_sameArguments_71
  exact sim_retL (by assumption) (by assumption)
def G_XSearch_sameArguments_59 (O : qOb9) (n : Nat) (l3 : Int32) (l4 : Int32) (l5 : Int64) (S : qS) : Option (Int64 × qS) :=
  if l3 = l4 then
    G_XSearch_sameArguments_71 O n l5 S
  else
    G_XSearch_sameArguments_71 O n (0 : Int64) S
set_option maxHeartbeats 4000000 in
set_option maxRecDepth 100000 in
theorem S_XSearch_sameArguments_59 {O : qOb9} (hO : okO O) {n : Nat} {M0 : PM} {l3 : Int32} {l4 : Int32} {l5 : Int64} {M : PM} {S : qS} (R : Rp O M S) (H : Fm O M0 M) : Sim eL O M0 (F_XSearch_sameArguments_59 n l3 l4 l5 M) (G_XSearch_sameArguments_59 O n l3 l4 l5 S) := by
  unfold F_XSearch_sameArguments_59 G_XSearch_sameArguments_59
  refine sim_if (fun _ => ?_) (fun _ => ?_)
  exact S_XSearch_sameArguments_71 hO (by assumption) (by assumption)
  exact S_XSearch_sameArguments_71 hO (by assumption) (by assumption)
def G_XSearch_sameArguments (O : qOb9) (n : Nat) (l0 : Nat) (l1 : Int32) (l2 : Int32) (S : qS) : Option (Int64 × qS) :=
  hO 7 O l0 0 (fun v1 =>
  hA 2 O v1 2 (fun v2 =>
  hl 0 O S v2 l1 (fun v3 =>
  hO 7 O l0 0 (fun v4 =>
  hA 2 O v4 2 (fun v5 =>
  hl 0 O S v5 l2 (fun v6 =>
  hO 7 O l0 2 (fun v7 =>
  hO 7 O l0 0 (fun v8 =>
  hA 2 O v8 1 (fun v9 =>
  hl 0 O S v9 l1 (fun v10 =>
  hO 7 O l0 0 (fun v11 =>
  hA 2 O v11 1 (fun v12 =>
  hl 0 O S v12 l2 (fun v13 =>
  hk 4 O v7 (
  yC (G_XPlanes_same O n v7 v10 v13 S) (fun v15 S14 =>
  if v3 = (-1 : Int32) then
    G_XSearch_sameArguments_59 O n v3 v6 v15 S14
  else
    if v6 = (-1 : Int32) then
      G_XSearch_sameArguments_59 O n v3 v6 v15 S14
    else
      hO 7 O l0 2 (fun v18 =>
      hk 4 O v18 (
      yC (G_XPlanes_same O n v18 v3 v6 S14) (fun v20 S19 =>
      some ((v15 &&& v20), S19)))))))))))))))))))
set_option maxHeartbeats 4000000 in
set_option maxRecDepth 100000 in
theorem S_XSearch_sameArguments {O : qOb9} (hO : okO O) {n : Nat} {M0 : PM} {l0 : Nat} {l1 : Int32} {l2 : Int32} {M : PM} {S : qS} (R : Rp O M S) (H : Fm O M0 M) : Sim eL O M0 (F_XSearch_sameArguments n l0 l1 l2 M) (G_XSearch_sameArguments O n l0 l1 l2 S) := by
  unfold F_XSearch_sameArguments G_XSearch_sameArguments
  refine sim_gO (by assumption) (fun _ => ?_)
  refine sim_gA (by assumption) (fun _ => ?_)
  refine sim_lI (by assumption) (fun _ => ?_)
  refine sim_gO (by assumption) (fun _ => ?_)
  refine sim_gA (by assumption) (fun _ => ?_)
  refine sim_lI (by assumption) (fun _ => ?_)
  refine sim_gO (by assumption) (fun _ => ?_)
  refine sim_gO (by assumption) (fun _ => ?_)
  refine sim_gA (by assumption) (fun _ => ?_)
  refine sim_lI (by assumption) (fun _ => ?_)
  refine sim_gO (by assumption) (fun _ => ?_)
  refine sim_gA (by assumption) (fun _ => ?_)
  refine sim_lI (by assumption) (fun _ => ?_)
  refine sim_kO (by assumption) ?_
  refine sim_cL (S_XPlanes_same hO (by assumption) (by assumption)) (fun _ _ _ _ _ => ?_)
  refine sim_if (fun _ => ?_) (fun _ => ?_)
  exact S_XSearch_sameArguments_59 hO (by assumption) (by assumption)
  refine sim_if (fun _ => ?_) (fun _ => ?_)
  exact S_XSearch_sameArguments_59 hO (by assumption) (by assumption)
  refine sim_gO (by assumption) (fun _ => ?_)
  refine sim_kO (by assumption) ?_
  refine sim_cL (S_XPlanes_same hO (by assumption) (by assumption)) (fun _ _ _ _ _ => ?_)
  exact sim_retL (by assumption) (by assumption)
def G_XSearch_withFunctions_83 (O : qOb9) (n : Nat) (rec17 : Nat → Int32 → Int32 → Int32 → Int64 → Int32 → qS → Option (Int64 × qS)) (l0 : Nat) (l1 : Int32) (l2 : Int32) (l5 : Int32) (l6 : Int64) (l8 : Int32) (S : qS) : Option (Int64 × qS) :=
  hB (l8 + (1 : Int32)) (fun v1 =>
  rec17 l0 l1 l2 l5 l6 v1 S)
set_option maxHeartbeats 4000000 in
set_option maxRecDepth 100000 in
theorem S_XSearch_withFunctions_83 {O : qOb9} (hO : okO O) {n : Nat} {M0 : PM} {rec17 : Nat → Int32 → Int32 → Int32 → Int64 → Int32 → PM → qO} {grec17 : Nat → Int32 → Int32 → Int32 → Int64 → Int32 → qS → Option (Int64 × qS)} (hrec17 : ∀ (l0 : Nat) (l1 : Int32) (l2 : Int32) (l5 : Int32) (l6 : Int64) (l8 : Int32) (M : PM) (S : qS), Rp O M S → Fm O M0 M → Sim eL O M0 (rec17 l0 l1 l2 l5 l6 l8 M) (grec17 l0 l1 l2 l5 l6 l8 S)) {l0 : Nat} {l1 : Int32} {l2 : Int32} {l5 : Int32} {l6 : Int64} {l8 : Int32} {M : PM} {S : qS} (R : Rp O M S) (H : Fm O M0 M) : Sim eL O M0 (F_XSearch_withFunctions_83 n rec17 l0 l1 l2 l5 l6 l8 M) (G_XSearch_withFunctions_83 O n grec17 l0 l1 l2 l5 l6 l8 S) := by
  unfold F_XSearch_withFunctions_83 G_XSearch_withFunctions_83
  refine sim_bI (fun _ => ?_)
  exact hrec17 _ _ _ _ _ _ _ _ (by assumption) (by assumption)
def G_XSearch_withFunctions_17 (O : qOb9) (n : Nat) : Nat → Nat → Int32 → Int32 → Int32 → Int64 → Int32 → qS → Option (Int64 × qS)
  | 0, _, _, _, _, _, _, _ => none
  | f + 1, l0, l1, l2, l5, l6, l8, S =>
    if l1 ≤ l8 then
      some (l6, S)
    else
      hA 7 O l0 4 (fun v2 =>
      hl 0 O S v2 l8 (fun v3 =>
      hA 7 O l0 5 (fun v4 =>
      hl 0 O S v4 l8 (fun v5 =>
      if v5 = l2 then
        G_XSearch_withFunctions_83 O n (G_XSearch_withFunctions_17 O n f) l0 l1 l2 l5 l6 l8 S
      else
        hO 7 O l0 0 (fun v7 =>
        hA 2 O v7 3 (fun v8 =>
        hl 0 O S v8 v3 (fun v9 =>
        hO 7 O l0 0 (fun v10 =>
        hA 2 O v10 3 (fun v11 =>
        hl 0 O S v11 l5 (fun v12 =>
        if v9 = v12 then
          hk 7 O l0 (
          yC (G_XSearch_sameArguments O n l0 l5 v3 S) (fun v15 S14 =>
          hB (l6 &&& (v15 ^^^ (-1 : Int64))) (fun v16 =>
          G_XSearch_withFunctions_83 O n (G_XSearch_withFunctions_17 O n f) l0 l1 l2 l5 v16 l8 S14)))
        else
          G_XSearch_withFunctions_83 O n (G_XSearch_withFunctions_17 O n f) l0 l1 l2 l5 l6 l8 S))))))))))
set_option maxHeartbeats 4000000 in
set_option maxRecDepth 100000 in
theorem S_XSearch_withFunctions_17 {O : qOb9} (hO : okO O) {n : Nat} {M0 : PM} : ∀ (f : Nat) (l0 : Nat) (l1 : Int32) (l2 : Int32) (l5 : Int32) (l6 : Int64) (l8 : Int32) (M : PM) (S : qS), Rp O M S → Fm O M0 M → Sim eL O M0 (F_XSearch_withFunctions_17 n f l0 l1 l2 l5 l6 l8 M) (G_XSearch_withFunctions_17 O n f l0 l1 l2 l5 l6 l8 S) := by
  intro f
  induction f with
  | zero => intro l0 l1 l2 l5 l6 l8 M S _ _; rw [G_XSearch_withFunctions_17]; exact sim_none
  | succ f ih =>
    intro l0 l1 l2 l5 l6 l8 M S R H
    rw [F_XSearch_withFunctions_17, G_XSearch_withFunctions_17]
    refine sim_if (fun _ => ?_) (fun _ => ?_)
    exact sim_retL (by assumption) (by assumption)
    refine sim_gA (by assumption) (fun _ => ?_)
    refine sim_lI (by assumption) (fun _ => ?_)
    refine sim_gA (by assumption) (fun _ => ?_)
    refine sim_lI (by assumption) (fun _ => ?_)
    refine sim_if (fun _ => ?_) (fun _ => ?_)
    exact S_XSearch_withFunctions_83 hO ih (by assumption) (by assumption)
    refine sim_gO (by assumption) (fun _ => ?_)
    refine sim_gA (by assumption) (fun _ => ?_)
    refine sim_lI (by assumption) (fun _ => ?_)
    refine sim_gO (by assumption) (fun _ => ?_)
    refine sim_gA (by assumption) (fun _ => ?_)
    refine sim_lI (by assumption) (fun _ => ?_)
    refine sim_if (fun _ => ?_) (fun _ => ?_)
    refine sim_kO (by assumption) ?_
    refine sim_cL (S_XSearch_sameArguments hO (by assumption) (by assumption)) (fun _ _ _ _ _ => ?_)
    refine sim_bL (fun _ => ?_)
    exact S_XSearch_withFunctions_83 hO ih (by assumption) (by assumption)
    exact S_XSearch_withFunctions_83 hO ih (by assumption) (by assumption)
def G_XSearch_withFunctions (O : qOb9) (n : Nat) (l0 : Nat) (l1 : Int32) (l2 : Int32) (l3 : Int64) (S : qS) : Option (Int64 × qS) :=
  hA 7 O l0 4 (fun v1 =>
  hl 0 O S v1 l1 (fun v2 =>
  hI 7 O S l0 12 (fun v3 =>
  G_XSearch_withFunctions_17 O n n l0 l1 l2 v2 l3 v3 S)))
set_option maxHeartbeats 4000000 in
set_option maxRecDepth 100000 in
theorem S_XSearch_withFunctions {O : qOb9} (hO : okO O) {n : Nat} {M0 : PM} {l0 : Nat} {l1 : Int32} {l2 : Int32} {l3 : Int64} {M : PM} {S : qS} (R : Rp O M S) (H : Fm O M0 M) : Sim eL O M0 (F_XSearch_withFunctions n l0 l1 l2 l3 M) (G_XSearch_withFunctions O n l0 l1 l2 l3 S) := by
  unfold F_XSearch_withFunctions G_XSearch_withFunctions
  refine sim_gA (by assumption) (fun _ => ?_)
  refine sim_lI (by assumption) (fun _ => ?_)
  refine sim_gI (by assumption) (fun _ => ?_)
  exact S_XSearch_withFunctions_17 hO _ _ _ _ _ _ _ _ _ (by assumption) (by assumption)
def G_XSearch_tell_90 (O : qOb9) (n : Nat) (rec28 : Nat → Nat → Int32 → qS → Option (Unit × qS)) (l0 : Nat) (l1 : Nat) (l2 : Int32) (S : qS) : Option (Unit × qS) :=
  hB (l2 + (1 : Int32)) (fun v1 =>
  rec28 l0 l1 v1 S)
set_option maxHeartbeats 4000000 in
set_option maxRecDepth 100000 in
theorem S_XSearch_tell_90 {O : qOb9} (hO : okO O) {n : Nat} {M0 : PM} {rec28 : Nat → Nat → Int32 → PM → qO} {grec28 : Nat → Nat → Int32 → qS → Option (Unit × qS)} (hrec28 : ∀ (l0 : Nat) (l1 : Nat) (l2 : Int32) (M : PM) (S : qS), Rp O M S → Fm O M0 M → Sim eV O M0 (rec28 l0 l1 l2 M) (grec28 l0 l1 l2 S)) {l0 : Nat} {l1 : Nat} {l2 : Int32} {M : PM} {S : qS} (R : Rp O M S) (H : Fm O M0 M) : Sim eV O M0 (F_XSearch_tell_90 n rec28 l0 l1 l2 M) (G_XSearch_tell_90 O n grec28 l0 l1 l2 S) := by
  unfold F_XSearch_tell_90 G_XSearch_tell_90
  refine sim_bI (fun _ => ?_)
  exact hrec28 _ _ _ _ _ (by assumption) (by assumption)
def G_XSearch_tell_98 (O : qOb9) (n : Nat) : Nat → Nat → Nat → Int32 → qS → Option (Unit × qS)
  | 0, _, _, _, _ => none
  | f + 1, l0, l1, l2, S =>
    hI 7 O S l0 12 (fun v1 =>
    if v1 ≤ l2 then
      some ((), S)
    else
      hA 3 O l1 0 (fun v3 =>
      hO 7 O l0 0 (fun v4 =>
      hA 2 O v4 1 (fun v5 =>
      hA 7 O l0 4 (fun v6 =>
      hl 0 O S v6 l2 (fun v7 =>
      hl 0 O S v5 v7 (fun v8 =>
      hA 7 O l0 9 (fun v9 =>
      hl 0 O S v9 l2 (fun v10 =>
      hw 0 O S v3 v8 v10 (fun S11 =>
      hB (l2 + (1 : Int32)) (fun v12 =>
      (G_XSearch_tell_98 O n f) l0 l1 v12 S11)))))))))))
set_option maxHeartbeats 4000000 in
set_option maxRecDepth 100000 in
theorem S_XSearch_tell_98 {O : qOb9} (hO : okO O) {n : Nat} {M0 : PM} : ∀ (f : Nat) (l0 : Nat) (l1 : Nat) (l2 : Int32) (M : PM) (S : qS), Rp O M S → Fm O M0 M → Sim eV O M0 (F_XSearch_tell_98 n f l0 l1 l2 M) (G_XSearch_tell_98 O n f l0 l1 l2 S) := by
  intro f
  induction f with
  | zero => intro l0 l1 l2 M S _ _; rw [G_XSearch_tell_98]; exact sim_none
  | succ f ih =>
    intro l0 l1 l2 M S R H
    rw [F_XSearch_tell_98, G_XSearch_tell_98]
    refine sim_gI (by assumption) (fun _ => ?_)
    refine sim_if (fun _ => ?_) (fun _ => ?_)
    exact sim_retV (by assumption) (by assumption)
    refine sim_gA (by assumption) (fun _ => ?_)
    refine sim_gO (by assumption) (fun _ => ?_)
    refine sim_gA (by assumption) (fun _ => ?_)
    refine sim_gA (by assumption) (fun _ => ?_)
    refine sim_lI (by assumption) (fun _ => ?_)
    refine sim_lI (by assumption) (fun _ => ?_)
    refine sim_gA (by assumption) (fun _ => ?_)
    refine sim_lI (by assumption) (fun _ => ?_)
    refine sim_wI hO (by assumption) (by assumption) (fun _ _ _ _ => ?_)
    refine sim_bI (fun _ => ?_)
    exact ih _ _ _ _ _ (by assumption) (by assumption)
def G_XSearch_tell_28 (O : qOb9) (n : Nat) : Nat → Nat → Nat → Int32 → qS → Option (Unit × qS)
  | 0, _, _, _, _ => none
  | f + 1, l0, l1, l2, S =>
    hI 7 O S l0 10 (fun v1 =>
    if v1 ≤ l2 then
      G_XSearch_tell_98 O n n l0 l1 (0 : Int32) S
    else
      hI 7 O S l0 13 (fun v3 =>
      hI 7 O S l0 10 (fun v4 =>
      hB ((v3 >>> (((v4 - (1 : Int32)) - l2) &&& 31)) &&& (1 : Int32)) (fun v5 =>
      hA 7 O l0 3 (fun v6 =>
      hl 0 O S v6 l2 (fun v7 =>
      if v7 = (2 : Int32) then
        hP 3 O S l1 3 (v5) (fun S16 =>
        G_XSearch_tell_90 O n (G_XSearch_tell_28 O n f) l0 l1 l2 S16)
      else
        hA 3 O l1 0 (fun v9 =>
        hO 7 O l0 0 (fun v10 =>
        hA 2 O v10 1 (fun v11 =>
        hA 7 O l0 3 (fun v12 =>
        hl 0 O S v12 l2 (fun v13 =>
        hl 0 O S v11 v13 (fun v14 =>
        hw 0 O S v9 v14 v5 (fun S15 =>
        G_XSearch_tell_90 O n (G_XSearch_tell_28 O n f) l0 l1 l2 S15)))))))))))))
set_option maxHeartbeats 4000000 in
set_option maxRecDepth 100000 in
theorem S_XSearch_tell_28 {O : qOb9} (hO : okO O) {n : Nat} {M0 : PM} : ∀ (f : Nat) (l0 : Nat) (l1 : Nat) (l2 : Int32) (M : PM) (S : qS), Rp O M S → Fm O M0 M → Sim eV O M0 (F_XSearch_tell_28 n f l0 l1 l2 M) (G_XSearch_tell_28 O n f l0 l1 l2 S) := by
  intro f
  induction f with
  | zero => intro l0 l1 l2 M S _ _; rw [G_XSearch_tell_28]; exact sim_none
  | succ f ih =>
    intro l0 l1 l2 M S R H
    rw [F_XSearch_tell_28, G_XSearch_tell_28]
    refine sim_gI (by assumption) (fun _ => ?_)
    refine sim_if (fun _ => ?_) (fun _ => ?_)
    exact S_XSearch_tell_98 hO _ _ _ _ _ _ (by assumption) (by assumption)
    refine sim_gI (by assumption) (fun _ => ?_)
    refine sim_gI (by assumption) (fun _ => ?_)
    refine sim_bI (fun _ => ?_)
    refine sim_gA (by assumption) (fun _ => ?_)
    refine sim_lI (by assumption) (fun _ => ?_)
    refine sim_if (fun _ => ?_) (fun _ => ?_)
    refine sim_pF (by assumption) (by assumption) (fun _ _ _ _ => ?_)
    exact S_XSearch_tell_90 hO ih (by assumption) (by assumption)
    refine sim_gA (by assumption) (fun _ => ?_)
    refine sim_gO (by assumption) (fun _ => ?_)
    refine sim_gA (by assumption) (fun _ => ?_)
    refine sim_gA (by assumption) (fun _ => ?_)
    refine sim_lI (by assumption) (fun _ => ?_)
    refine sim_lI (by assumption) (fun _ => ?_)
    refine sim_wI hO (by assumption) (by assumption) (fun _ _ _ _ => ?_)
    exact S_XSearch_tell_90 hO ih (by assumption) (by assumption)
def G_XSearch_tell (O : qOb9) (n : Nat) (l0 : Nat) (l1 : Nat) (S : qS) : Option (Unit × qS) :=
  hI 7 O S l0 13 (fun v1 =>
  if v1 = (64 : Int32) then
    some ((), S)
  else
    hO 7 O l0 1 (fun v3 =>
    hA 6 O v3 2 (fun v4 =>
    hI 7 O S l0 14 (fun v5 =>
    hl 0 O S v4 v5 (fun v6 =>
    hP 3 O S l1 4 (v6) (fun S7 =>
    G_XSearch_tell_28 O n n l0 l1 (0 : Int32) S7))))))
set_option maxHeartbeats 4000000 in
set_option maxRecDepth 100000 in
theorem S_XSearch_tell {O : qOb9} (hO : okO O) {n : Nat} {M0 : PM} {l0 : Nat} {l1 : Nat} {M : PM} {S : qS} (R : Rp O M S) (H : Fm O M0 M) : Sim eV O M0 (F_XSearch_tell n l0 l1 M) (G_XSearch_tell O n l0 l1 S) := by
  unfold F_XSearch_tell G_XSearch_tell
  refine sim_gI (by assumption) (fun _ => ?_)
  refine sim_if (fun _ => ?_) (fun _ => ?_)
  exact sim_retV (by assumption) (by assumption)
  refine sim_gO (by assumption) (fun _ => ?_)
  refine sim_gA (by assumption) (fun _ => ?_)
  refine sim_gI (by assumption) (fun _ => ?_)
  refine sim_lI (by assumption) (fun _ => ?_)
  refine sim_pF (by assumption) (by assumption) (fun _ _ _ _ => ?_)
  exact S_XSearch_tell_28 hO _ _ _ _ _ _ (by assumption) (by assumption)
def G_X_count (O : qOb9) (n : Nat) (l0 : Nat) (l1 : Int32) (S : qS) : Option (Int32 × qS) :=
  if l1 = (0 : Int32) then
    hO 0 O l0 0 (fun v2 =>
    hO 1 O v2 0 (fun v3 =>
    hI 2 O S v3 8 (fun v4 =>
    some (v4, S))))
  else
  if l1 = (1 : Int32) then
    hO 0 O l0 0 (fun v6 =>
    hI 1 O S v6 5 (fun v7 =>
    some (v7, S)))
  else
  if l1 = (2 : Int32) then
    hO 0 O l0 0 (fun v9 =>
    hI 1 O S v9 6 (fun v10 =>
    some (v10, S)))
  else
  if l1 = (3 : Int32) then
    hO 0 O l0 0 (fun v12 =>
    hI 1 O S v12 7 (fun v13 =>
    some (v13, S)))
  else
  if l1 = (4 : Int32) then
    hO 0 O l0 1 (fun v15 =>
    hI 3 O S v15 5 (fun v16 =>
    some (v16, S)))
  else
  if l1 = (5 : Int32) then
    hO 0 O l0 1 (fun v18 =>
    hI 3 O S v18 6 (fun v19 =>
    some (v19, S)))
  else
    some ((-1 : Int32), S)
set_option maxHeartbeats 4000000 in
set_option maxRecDepth 100000 in
theorem S_X_count {O : qOb9} (hO : okO O) {n : Nat} {M0 : PM} {l0 : Nat} {l1 : Int32} {M : PM} {S : qS} (R : Rp O M S) (H : Fm O M0 M) : Sim eI O M0 (F_X_count n l0 l1 M) (G_X_count O n l0 l1 S) := by
  unfold F_X_count G_X_count
  refine sim_if (fun _ => ?_) (fun _ => ?_)
  refine sim_gO (by assumption) (fun _ => ?_)
  refine sim_gO (by assumption) (fun _ => ?_)
  refine sim_gI (by assumption) (fun _ => ?_)
  exact sim_retI (by assumption) (by assumption)
  refine sim_if (fun _ => ?_) (fun _ => ?_)
  refine sim_gO (by assumption) (fun _ => ?_)
  refine sim_gI (by assumption) (fun _ => ?_)
  exact sim_retI (by assumption) (by assumption)
  refine sim_if (fun _ => ?_) (fun _ => ?_)
  refine sim_gO (by assumption) (fun _ => ?_)
  refine sim_gI (by assumption) (fun _ => ?_)
  exact sim_retI (by assumption) (by assumption)
  refine sim_if (fun _ => ?_) (fun _ => ?_)
  refine sim_gO (by assumption) (fun _ => ?_)
  refine sim_gI (by assumption) (fun _ => ?_)
  exact sim_retI (by assumption) (by assumption)
  refine sim_if (fun _ => ?_) (fun _ => ?_)
  refine sim_gO (by assumption) (fun _ => ?_)
  refine sim_gI (by assumption) (fun _ => ?_)
  exact sim_retI (by assumption) (by assumption)
  refine sim_if (fun _ => ?_) (fun _ => ?_)
  refine sim_gO (by assumption) (fun _ => ?_)
  refine sim_gI (by assumption) (fun _ => ?_)
  exact sim_retI (by assumption) (by assumption)
  exact sim_retI (by assumption) (by assumption)
