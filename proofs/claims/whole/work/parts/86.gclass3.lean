def G_X_differs (O : qOb9) (n : Nat) (l0 : Nat) (S : qS) : Option ((Int32 ⊕ String) × qS) :=
  hk 1 O l0 (
  tW (G_X_requireFailure O n l0 S) (fun S1 =>
  hO 1 O l0 1 (fun v2 =>
  hI 4 O S1 v2 4 (fun v3 =>
  some (.inl (v3), S1)))))
set_option maxHeartbeats 4000000 in
set_option maxRecDepth 100000 in
theorem S_X_differs {O : qOb9} (hO : okO O) {n : Nat} {M0 : PM} {l0 : Nat} {M : PM} {S : qS} (R : Rp O M S) (H : Fm O M0 M) : Sim (eX eI) O M0 (F_X_differs n l0 M) (G_X_differs O n l0 S) := by
  unfold F_X_differs G_X_differs
  refine sim_kO (by assumption) ?_
  refine sim_tV (S_X_requireFailure hO (by assumption) (by assumption)) (fun _ _ _ _ => ?_)
  refine sim_gO (by assumption) (fun _ => ?_)
  refine sim_gI (by assumption) (fun _ => ?_)
  exact sim_retIx (by assumption) (by assumption)
def G_X_node (O : qOb9) (n : Nat) (l0 : Nat) (l1 : Int32) (l2 : Int32) (S : qS) : Option ((Int32 ⊕ String) × qS) :=
  hk 1 O l0 (
  tW (G_X_requireNode O n l0 l1 S) (fun S1 =>
  if l2 = (0 : Int32) then
    hO 1 O l0 0 (fun v3 =>
    hO 2 O v3 0 (fun v4 =>
    hA 3 O v4 0 (fun v5 =>
    hl 0 O S1 v5 l1 (fun v6 =>
    some (.inl (v6), S1)))))
  else
  if l2 = (1 : Int32) then
    hO 1 O l0 0 (fun v8 =>
    hO 2 O v8 0 (fun v9 =>
    hA 3 O v9 1 (fun v10 =>
    hl 0 O S1 v10 l1 (fun v11 =>
    some (.inl (v11), S1)))))
  else
  if l2 = (2 : Int32) then
    hO 1 O l0 0 (fun v13 =>
    hO 2 O v13 0 (fun v14 =>
    hA 3 O v14 2 (fun v15 =>
    hl 0 O S1 v15 l1 (fun v16 =>
    some (.inl (v16), S1)))))
  else
  if l2 = (3 : Int32) then
    hO 1 O l0 0 (fun v18 =>
    hO 2 O v18 0 (fun v19 =>
    hA 3 O v19 3 (fun v20 =>
    hl 0 O S1 v20 l1 (fun v21 =>
    some (.inl (v21), S1)))))
  else
    some (.inr "java/lang/IndexOutOfBoundsException", S1)))
set_option maxHeartbeats 4000000 in
set_option maxRecDepth 100000 in
theorem S_X_node {O : qOb9} (hO : okO O) {n : Nat} {M0 : PM} {l0 : Nat} {l1 : Int32} {l2 : Int32} {M : PM} {S : qS} (R : Rp O M S) (H : Fm O M0 M) : Sim (eX eI) O M0 (F_X_node n l0 l1 l2 M) (G_X_node O n l0 l1 l2 S) := by
  unfold F_X_node G_X_node
  refine sim_kO (by assumption) ?_
  refine sim_tV (S_X_requireNode hO (by assumption) (by assumption)) (fun _ _ _ _ => ?_)
  refine sim_if (fun _ => ?_) (fun _ => ?_)
  refine sim_gO (by assumption) (fun _ => ?_)
  refine sim_gO (by assumption) (fun _ => ?_)
  refine sim_gA (by assumption) (fun _ => ?_)
  refine sim_lI (by assumption) (fun _ => ?_)
  exact sim_retIx (by assumption) (by assumption)
  refine sim_if (fun _ => ?_) (fun _ => ?_)
  refine sim_gO (by assumption) (fun _ => ?_)
  refine sim_gO (by assumption) (fun _ => ?_)
  refine sim_gA (by assumption) (fun _ => ?_)
  refine sim_lI (by assumption) (fun _ => ?_)
  exact sim_retIx (by assumption) (by assumption)
  refine sim_if (fun _ => ?_) (fun _ => ?_)
  refine sim_gO (by assumption) (fun _ => ?_)
  refine sim_gO (by assumption) (fun _ => ?_)
  refine sim_gA (by assumption) (fun _ => ?_)
  refine sim_lI (by assumption) (fun _ => ?_)
  exact sim_retIx (by assumption) (by assumption)
  refine sim_if (fun _ => ?_) (fun _ => ?_)
  refine sim_gO (by assumption) (fun _ => ?_)
  refine sim_gO (by assumption) (fun _ => ?_)
  refine sim_gA (by assumption) (fun _ => ?_)
  refine sim_lI (by assumption) (fun _ => ?_)
  exact sim_retIx (by assumption) (by assumption)
  exact sim_throw (by assumption) (by assumption)
def G_X_count (O : qOb9) (n : Nat) (l0 : Nat) (l1 : Int32) (S : qS) : Option (Int32 × qS) :=
  if l1 = (0 : Int32) then
    hO 1 O l0 0 (fun v2 =>
    hO 2 O v2 0 (fun v3 =>
    hI 3 O S v3 7 (fun v4 =>
    some (v4, S))))
  else
  if l1 = (1 : Int32) then
    hO 1 O l0 0 (fun v6 =>
    hI 2 O S v6 6 (fun v7 =>
    some (v7, S)))
  else
  if l1 = (2 : Int32) then
    hO 1 O l0 0 (fun v9 =>
    hI 2 O S v9 7 (fun v10 =>
    some (v10, S)))
  else
  if l1 = (3 : Int32) then
    hO 1 O l0 0 (fun v12 =>
    hI 2 O S v12 8 (fun v13 =>
    some (v13, S)))
  else
  if l1 = (4 : Int32) then
    hO 1 O l0 1 (fun v15 =>
    hI 4 O S v15 5 (fun v16 =>
    some (v16, S)))
  else
  if l1 = (5 : Int32) then
    hO 1 O l0 1 (fun v18 =>
    hI 4 O S v18 6 (fun v19 =>
    some (v19, S)))
  else
    some ((-1 : Int32), S)
set_option maxHeartbeats 4000000 in
set_option maxRecDepth 100000 in
theorem S_X_count {O : qOb9} (hO : okO O) {n : Nat} {M0 : PM} {l0 : Nat} {l1 : Int32} {M : PM} {S : qS} (R : Rp O M S) (H : Fm O M0 M) : Sim eI O M0 (F_X_count n l0 l1 M) (G_X_count O n l0 l1 S) := by
  unfold F_X_count G_X_count
  refine sim_if (fun _ => ?_) (fun _ => ?_)
  refine sim_gO (by assumption) (fun _ => ?_)
  refine sim_gO (by assumption) (fun _ => ?_)
  refine sim_gI (by assumption) (fun _ => ?_)
  exact sim_retI (by assumption) (by assumption)
  refine sim_if (fun _ => ?_) (fun _ => ?_)
  refine sim_gO (by assumption) (fun _ => ?_)
  refine sim_gI (by assumption) (fun _ => ?_)
  exact sim_retI (by assumption) (by assumption)
  refine sim_if (fun _ => ?_) (fun _ => ?_)
  refine sim_gO (by assumption) (fun _ => ?_)
  refine sim_gI (by assumption) (fun _ => ?_)
  exact sim_retI (by assumption) (by assumption)
  refine sim_if (fun _ => ?_) (fun _ => ?_)
  refine sim_gO (by assumption) (fun _ => ?_)
  refine sim_gI (by assumption) (fun _ => ?_)
  exact sim_retI (by assumption) (by assumption)
  refine sim_if (fun _ => ?_) (fun _ => ?_)
  refine sim_gO (by assumption) (fun _ => ?_)
  refine sim_gI (by assumption) (fun _ => ?_)
  exact sim_retI (by assumption) (by assumption)
  refine sim_if (fun _ => ?_) (fun _ => ?_)
  refine sim_gO (by assumption) (fun _ => ?_)
  refine sim_gI (by assumption) (fun _ => ?_)
  exact sim_retI (by assumption) (by assumption)
  exact sim_retI (by assumption) (by assumption)
