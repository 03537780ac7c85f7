def G_X_count (O : qOb9) (n : Nat) (l0 : Nat) (l1 : Int32) (S : qS) : Option (Int32 × qS) :=
  if l1 = (0 : Int32) then
    hO 0 O l0 0 (fun v2 =>
    hO 1 O v2 0 (fun v3 =>
    hI 2 O S v3 8 (fun v4 =>
    some (v4, S))))
  else
  if l1 = (1 : Int32) then
    hO 0 O l0 0 (fun v6 =>
    hI 1 O S v6 5 (fun v7 =>
    some (v7, S)))
  else
  if l1 = (2 : Int32) then
    hO 0 O l0 0 (fun v9 =>
    hI 1 O S v9 6 (fun v10 =>
    some (v10, S)))
  else
  if l1 = (3 : Int32) then
    hO 0 O l0 0 (fun v12 =>
    hI 1 O S v12 7 (fun v13 =>
    some (v13, S)))
  else
  if l1 = (4 : Int32) then
    hO 0 O l0 1 (fun v15 =>
    hI 3 O S v15 5 (fun v16 =>
    some (v16, S)))
  else
  if l1 = (5 : Int32) then
    hO 0 O l0 1 (fun v18 =>
    hI 3 O S v18 6 (fun v19 =>
    some (v19, S)))
  else
    some ((-1 : Int32), S)
set_option maxHeartbeats 4000000 in
set_option maxRecDepth 100000 in
theorem S_X_count {O : qOb9} (hO : okO O) {n : Nat} {M0 : PM} {l0 : Nat} {l1 : Int32} {M : PM} {S : qS} (R : Rp O M S) (H : Fm O M0 M) : Sim eI O M0 (F_X_count n l0 l1 M) (G_X_count O n l0 l1 S) := by
  unfold F_X_count G_X_count
  refine sim_if (fun _ => ?_) (fun _ => ?_)
  refine sim_gO (by assumption) (fun _ => ?_)
  refine sim_gO (by assumption) (fun _ => ?_)
  refine sim_gI (by assumption) (fun _ => ?_)
  exact sim_retI (by assumption) (by assumption)
  refine sim_if (fun _ => ?_) (fun _ => ?_)
  refine sim_gO (by assumption) (fun _ => ?_)
  refine sim_gI (by assumption) (fun _ => ?_)
  exact sim_retI (by assumption) (by assumption)
  refine sim_if (fun _ => ?_) (fun _ => ?_)
  refine sim_gO (by assumption) (fun _ => ?_)
  refine sim_gI (by assumption) (fun _ => ?_)
  exact sim_retI (by assumption) (by assumption)
  refine sim_if (fun _ => ?_) (fun _ => ?_)
  refine sim_gO (by assumption) (fun _ => ?_)
  refine sim_gI (by assumption) (fun _ => ?_)
  exact sim_retI (by assumption) (by assumption)
  refine sim_if (fun _ => ?_) (fun _ => ?_)
  refine sim_gO (by assumption) (fun _ => ?_)
  refine sim_gI (by assumption) (fun _ => ?_)
  exact sim_retI (by assumption) (by assumption)
  refine sim_if (fun _ => ?_) (fun _ => ?_)
  refine sim_gO (by assumption) (fun _ => ?_)
  refine sim_gI (by assumption) (fun _ => ?_)
  exact sim_retI (by assumption) (by assumption)
  exact sim_retI (by assumption) (by assumption)
