theorem d_XModel_plainest_0 : decode Y_XModel_plainest.2.1 0 = .ok (.iload_n 1, 1) := by decide +kernel
theorem d_XModel_plainest_1 : decode Y_XModel_plainest.2.1 1 = .ok (.bipush (6), 2) := by decide +kernel
theorem d_XModel_plainest_3 : decode Y_XModel_plainest.2.1 3 = .ok (.if_icmp .ne (10), 3) := by decide +kernel
theorem d_XModel_plainest_6 : decode Y_XModel_plainest.2.1 6 = .ok (.iload_n 2, 1) := by decide +kernel
theorem d_XModel_plainest_7 : decode Y_XModel_plainest.2.1 7 = .ok (.iload_n 3, 1) := by decide +kernel
theorem d_XModel_plainest_8 : decode Y_XModel_plainest.2.1 8 = .ok (.if_icmp .ne (5), 3) := by decide +kernel
theorem d_XModel_plainest_11 : decode Y_XModel_plainest.2.1 11 = .ok (.iconst 1, 1) := by decide +kernel
theorem d_XModel_plainest_12 : decode Y_XModel_plainest.2.1 12 = .ok (.ireturn, 1) := by decide +kernel
theorem d_XModel_plainest_13 : decode Y_XModel_plainest.2.1 13 = .ok (.iload_n 1, 1) := by decide +kernel
theorem d_XModel_plainest_14 : decode Y_XModel_plainest.2.1 14 = .ok (.bipush (7), 2) := by decide +kernel
theorem d_XModel_plainest_16 : decode Y_XModel_plainest.2.1 16 = .ok (.if_icmp .ne (42), 3) := by decide +kernel
theorem d_XModel_plainest_19 : decode Y_XModel_plainest.2.1 19 = .ok (.iload_n 2, 1) := by decide +kernel
theorem d_XModel_plainest_20 : decode Y_XModel_plainest.2.1 20 = .ok (.iconst 1, 1) := by decide +kernel
theorem d_XModel_plainest_21 : decode Y_XModel_plainest.2.1 21 = .ok (.if_icmp .ne (7), 3) := by decide +kernel
theorem d_XModel_plainest_24 : decode Y_XModel_plainest.2.1 24 = .ok (.iconst 0, 1) := by decide +kernel
theorem d_XModel_plainest_25 : decode Y_XModel_plainest.2.1 25 = .ok (.goto (32), 3) := by decide +kernel
theorem d_XModel_plainest_28 : decode Y_XModel_plainest.2.1 28 = .ok (.iload_n 2, 1) := by decide +kernel
theorem d_XModel_plainest_29 : decode Y_XModel_plainest.2.1 29 = .ok (.ifCond .ne (7), 3) := by decide +kernel
theorem d_XModel_plainest_32 : decode Y_XModel_plainest.2.1 32 = .ok (.iconst 1, 1) := by decide +kernel
theorem d_XModel_plainest_33 : decode Y_XModel_plainest.2.1 33 = .ok (.goto (24), 3) := by decide +kernel
theorem d_XModel_plainest_36 : decode Y_XModel_plainest.2.1 36 = .ok (.aload_n 0, 1) := by decide +kernel
theorem d_XModel_plainest_37 : decode Y_XModel_plainest.2.1 37 = .ok (.getfield 13, 3) := by decide +kernel
theorem d_XModel_plainest_40 : decode Y_XModel_plainest.2.1 40 = .ok (.iload_n 2, 1) := by decide +kernel
theorem d_XModel_plainest_41 : decode Y_XModel_plainest.2.1 41 = .ok (.iaload, 1) := by decide +kernel
theorem d_XModel_plainest_42 : decode Y_XModel_plainest.2.1 42 = .ok (.bipush (7), 2) := by decide +kernel
theorem d_XModel_plainest_44 : decode Y_XModel_plainest.2.1 44 = .ok (.if_icmp .ne (12), 3) := by decide +kernel
theorem d_XModel_plainest_47 : decode Y_XModel_plainest.2.1 47 = .ok (.aload_n 0, 1) := by decide +kernel
theorem d_XModel_plainest_48 : decode Y_XModel_plainest.2.1 48 = .ok (.getfield 17, 3) := by decide +kernel
theorem d_XModel_plainest_51 : decode Y_XModel_plainest.2.1 51 = .ok (.iload_n 2, 1) := by decide +kernel
theorem d_XModel_plainest_52 : decode Y_XModel_plainest.2.1 52 = .ok (.iaload, 1) := by decide +kernel
theorem d_XModel_plainest_53 : decode Y_XModel_plainest.2.1 53 = .ok (.goto (4), 3) := by decide +kernel
theorem d_XModel_plainest_56 : decode Y_XModel_plainest.2.1 56 = .ok (.iconst (-1), 1) := by decide +kernel
theorem d_XModel_plainest_57 : decode Y_XModel_plainest.2.1 57 = .ok (.ireturn, 1) := by decide +kernel
theorem d_XModel_plainest_58 : decode Y_XModel_plainest.2.1 58 = .ok (.iload_n 1, 1) := by decide +kernel
theorem d_XModel_plainest_59 : decode Y_XModel_plainest.2.1 59 = .ok (.bipush (8), 2) := by decide +kernel
theorem d_XModel_plainest_61 : decode Y_XModel_plainest.2.1 61 = .ok (.if_icmp .ne (40), 3) := by decide +kernel
theorem d_XModel_plainest_64 : decode Y_XModel_plainest.2.1 64 = .ok (.iload_n 2, 1) := by decide +kernel
theorem d_XModel_plainest_65 : decode Y_XModel_plainest.2.1 65 = .ok (.ifCond .eq (7), 3) := by decide +kernel
theorem d_XModel_plainest_68 : decode Y_XModel_plainest.2.1 68 = .ok (.iload_n 3, 1) := by decide +kernel
theorem d_XModel_plainest_69 : decode Y_XModel_plainest.2.1 69 = .ok (.ifCond .ne (7), 3) := by decide +kernel
theorem d_XModel_plainest_72 : decode Y_XModel_plainest.2.1 72 = .ok (.iconst 0, 1) := by decide +kernel
theorem d_XModel_plainest_73 : decode Y_XModel_plainest.2.1 73 = .ok (.goto (27), 3) := by decide +kernel
theorem d_XModel_plainest_76 : decode Y_XModel_plainest.2.1 76 = .ok (.iload_n 2, 1) := by decide +kernel
theorem d_XModel_plainest_77 : decode Y_XModel_plainest.2.1 77 = .ok (.iconst 1, 1) := by decide +kernel
theorem d_XModel_plainest_78 : decode Y_XModel_plainest.2.1 78 = .ok (.if_icmp .ne (7), 3) := by decide +kernel
theorem d_XModel_plainest_81 : decode Y_XModel_plainest.2.1 81 = .ok (.iload_n 3, 1) := by decide +kernel
theorem d_XModel_plainest_82 : decode Y_XModel_plainest.2.1 82 = .ok (.goto (18), 3) := by decide +kernel
theorem d_XModel_plainest_85 : decode Y_XModel_plainest.2.1 85 = .ok (.iload_n 3, 1) := by decide +kernel
theorem d_XModel_plainest_86 : decode Y_XModel_plainest.2.1 86 = .ok (.iconst 1, 1) := by decide +kernel
theorem d_XModel_plainest_87 : decode Y_XModel_plainest.2.1 87 = .ok (.if_icmp .eq (8), 3) := by decide +kernel
theorem d_XModel_plainest_90 : decode Y_XModel_plainest.2.1 90 = .ok (.iload_n 2, 1) := by decide +kernel
theorem d_XModel_plainest_91 : decode Y_XModel_plainest.2.1 91 = .ok (.iload_n 3, 1) := by decide +kernel
theorem d_XModel_plainest_92 : decode Y_XModel_plainest.2.1 92 = .ok (.if_icmp .ne (7), 3) := by decide +kernel
theorem d_XModel_plainest_95 : decode Y_XModel_plainest.2.1 95 = .ok (.iload_n 2, 1) := by decide +kernel
theorem d_XModel_plainest_96 : decode Y_XModel_plainest.2.1 96 = .ok (.goto (4), 3) := by decide +kernel
theorem d_XModel_plainest_99 : decode Y_XModel_plainest.2.1 99 = .ok (.iconst (-1), 1) := by decide +kernel
theorem d_XModel_plainest_100 : decode Y_XModel_plainest.2.1 100 = .ok (.ireturn, 1) := by decide +kernel
theorem d_XModel_plainest_101 : decode Y_XModel_plainest.2.1 101 = .ok (.iload_n 1, 1) := by decide +kernel
theorem d_XModel_plainest_102 : decode Y_XModel_plainest.2.1 102 = .ok (.bipush (9), 2) := by decide +kernel
theorem d_XModel_plainest_104 : decode Y_XModel_plainest.2.1 104 = .ok (.if_icmp .ne (33), 3) := by decide +kernel
theorem d_XModel_plainest_107 : decode Y_XModel_plainest.2.1 107 = .ok (.iload_n 2, 1) := by decide +kernel
theorem d_XModel_plainest_108 : decode Y_XModel_plainest.2.1 108 = .ok (.iconst 1, 1) := by decide +kernel
theorem d_XModel_plainest_109 : decode Y_XModel_plainest.2.1 109 = .ok (.if_icmp .ne (7), 3) := by decide +kernel
theorem d_XModel_plainest_112 : decode Y_XModel_plainest.2.1 112 = .ok (.iload_n 3, 1) := by decide +kernel
theorem d_XModel_plainest_113 : decode Y_XModel_plainest.2.1 113 = .ok (.goto (23), 3) := by decide +kernel
theorem d_XModel_plainest_116 : decode Y_XModel_plainest.2.1 116 = .ok (.iload_n 2, 1) := by decide +kernel
theorem d_XModel_plainest_117 : decode Y_XModel_plainest.2.1 117 = .ok (.ifCond .ne (8), 3) := by decide +kernel
theorem d_XModel_plainest_120 : decode Y_XModel_plainest.2.1 120 = .ok (.iload 4, 2) := by decide +kernel
theorem d_XModel_plainest_122 : decode Y_XModel_plainest.2.1 122 = .ok (.goto (14), 3) := by decide +kernel
theorem d_XModel_plainest_125 : decode Y_XModel_plainest.2.1 125 = .ok (.iload_n 3, 1) := by decide +kernel
theorem d_XModel_plainest_126 : decode Y_XModel_plainest.2.1 126 = .ok (.iload 4, 2) := by decide +kernel
theorem d_XModel_plainest_128 : decode Y_XModel_plainest.2.1 128 = .ok (.if_icmp .ne (7), 3) := by decide +kernel
theorem d_XModel_plainest_131 : decode Y_XModel_plainest.2.1 131 = .ok (.iload_n 3, 1) := by decide +kernel
theorem d_XModel_plainest_132 : decode Y_XModel_plainest.2.1 132 = .ok (.goto (4), 3) := by decide +kernel
theorem d_XModel_plainest_135 : decode Y_XModel_plainest.2.1 135 = .ok (.iconst (-1), 1) := by decide +kernel
theorem d_XModel_plainest_136 : decode Y_XModel_plainest.2.1 136 = .ok (.ireturn, 1) := by decide +kernel
theorem d_XModel_plainest_137 : decode Y_XModel_plainest.2.1 137 = .ok (.iconst (-1), 1) := by decide +kernel
theorem d_XModel_plainest_138 : decode Y_XModel_plainest.2.1 138 = .ok (.ireturn, 1) := by decide +kernel
def F_XModel_plainest_57 (n : Nat) (s0 : Int32) (M : PM) : qO :=
  some (.inl (some (.int s0)), M)
set_option maxHeartbeats 4000000 in
set_option maxRecDepth 100000 in
theorem E_XModel_plainest_57 {g : qG} {X : qX} {Z : qZ} (hn : 0 ≤ zn Z) (hl : 0 ≤ zl Z) {n : Nat} {s0 : Int32} {M : PM} (h : F_XModel_plainest_57 n s0 M = some (zr Z, zf Z)) : EW Y_XModel_plainest g X Z 57 [] [.int s0] M := by
  unfold F_XModel_plainest_57 at h
  obtain ⟨hz, hm⟩ := Prod.mk.inj (Option.some.inj h)
  exact ew_ireturn d_XModel_plainest_57 rfl hz.symm hm.symm
def F_XModel_plainest_100 (n : Nat) (s0 : Int32) (M : PM) : qO :=
  some (.inl (some (.int s0)), M)
set_option maxHeartbeats 4000000 in
set_option maxRecDepth 100000 in
theorem E_XModel_plainest_100 {g : qG} {X : qX} {Z : qZ} (hn : 0 ≤ zn Z) (hl : 0 ≤ zl Z) {n : Nat} {s0 : Int32} {M : PM} (h : F_XModel_plainest_100 n s0 M = some (zr Z, zf Z)) : EW Y_XModel_plainest g X Z 100 [] [.int s0] M := by
  unfold F_XModel_plainest_100 at h
  obtain ⟨hz, hm⟩ := Prod.mk.inj (Option.some.inj h)
  exact ew_ireturn d_XModel_plainest_100 rfl hz.symm hm.symm
def F_XModel_plainest_72 (n : Nat) (M : PM) : qO :=
  F_XModel_plainest_100 n (0 : Int32) M
set_option maxHeartbeats 4000000 in
set_option maxRecDepth 100000 in
theorem E_XModel_plainest_72 {g : qG} {X : qX} {Z : qZ} (hn : 0 ≤ zn Z) (hl : 0 ≤ zl Z) {n : Nat} {M : PM} (h : F_XModel_plainest_72 n M = some (zr Z, zf Z)) : EW Y_XModel_plainest g X Z 72 [] [] M := by
  unfold F_XModel_plainest_72 at h
  refine ew_iconst (0) d_XModel_plainest_72 (by decide) ?_
  refine ew_goto 100 d_XModel_plainest_73 (by decide) ?_
  exact E_XModel_plainest_100 hn hl h
def F_XModel_plainest_95 (n : Nat) (l2 : Int32) (M : PM) : qO :=
  F_XModel_plainest_100 n l2 M
set_option maxHeartbeats 4000000 in
set_option maxRecDepth 100000 in
theorem E_XModel_plainest_95 {g : qG} {X : qX} {Z : qZ} (hn : 0 ≤ zn Z) (hl : 0 ≤ zl Z) {n : Nat} {l2 : Int32} {M : PM} (h : F_XModel_plainest_95 n l2 M = some (zr Z, zf Z)) : EW Y_XModel_plainest g X Z 95 [(2, .int l2)] [] M := by
  unfold F_XModel_plainest_95 at h
  refine ew_iload_n 2 d_XModel_plainest_95 rfl rfl ?_
  refine ew_goto 100 d_XModel_plainest_96 (by decide) ?_
  exact ew_pick (L' := []) [] rfl (E_XModel_plainest_100 hn hl h)
def F_XModel_plainest_136 (n : Nat) (s0 : Int32) (M : PM) : qO :=
  some (.inl (some (.int s0)), M)
set_option maxHeartbeats 4000000 in
set_option maxRecDepth 100000 in
theorem E_XModel_plainest_136 {g : qG} {X : qX} {Z : qZ} (hn : 0 ≤ zn Z) (hl : 0 ≤ zl Z) {n : Nat} {s0 : Int32} {M : PM} (h : F_XModel_plainest_136 n s0 M = some (zr Z, zf Z)) : EW Y_XModel_plainest g X Z 136 [] [.int s0] M := by
  unfold F_XModel_plainest_136 at h
  obtain ⟨hz, hm⟩ := Prod.mk.inj (Option.some.inj h)
  exact ew_ireturn d_XModel_plainest_136 rfl hz.symm hm.symm
def F_XModel_plainest_13 (n : Nat) (l0 : Nat) (l1 : Int32) (l2 : Int32) (l3 : Int32) (l4 : Int32) (M : PM) : qO :=
  if l1 = (7 : Int32) then
    if l2 = (1 : Int32) then
      F_XModel_plainest_57 n (0 : Int32) M
    else
      if l2 = (0 : Int32) then
        F_XModel_plainest_57 n (1 : Int32) M
      else
        gR 8 M l0 3 (fun v14 =>
        lI M v14 l2 (fun v15 =>
        if v15 = (7 : Int32) then
          gR 8 M l0 4 (fun v17 =>
          lI M v17 l2 (fun v18 =>
          F_XModel_plainest_57 n v18 M))
        else
          F_XModel_plainest_57 n (-1 : Int32) M))
  else
    if l1 = (8 : Int32) then
      if l2 = (0 : Int32) then
        F_XModel_plainest_72 n M
      else
        if l3 = (0 : Int32) then
          F_XModel_plainest_72 n M
        else
          if l2 = (1 : Int32) then
            F_XModel_plainest_100 n l3 M
          else
            if l3 = (1 : Int32) then
              F_XModel_plainest_95 n l2 M
            else
              if l2 = l3 then
                F_XModel_plainest_95 n l2 M
              else
                F_XModel_plainest_100 n (-1 : Int32) M
    else
      if l1 = (9 : Int32) then
        if l2 = (1 : Int32) then
          F_XModel_plainest_136 n l3 M
        else
          if l2 = (0 : Int32) then
            F_XModel_plainest_136 n l4 M
          else
            if l3 = l4 then
              F_XModel_plainest_136 n l3 M
            else
              F_XModel_plainest_136 n (-1 : Int32) M
      else
        some (.inl (some (.int (-1 : Int32))), M)
set_option maxHeartbeats 4000000 in
set_option maxRecDepth 100000 in
theorem E_XModel_plainest_13 {g : qG} {X : qX} {Z : qZ} (hn : 0 ≤ zn Z) (hl : 0 ≤ zl Z) {n : Nat} {l0 : Nat} {l1 : Int32} {l2 : Int32} {l3 : Int32} {l4 : Int32} {M : PM} (h : F_XModel_plainest_13 n l0 l1 l2 l3 l4 M = some (zr Z, zf Z)) : EW Y_XModel_plainest g X Z 13 [(0, .ref l0), (1, .int l1), (2, .int l2), (3, .int l3), (4, .int l4)] [] M := by
  unfold F_XModel_plainest_13 at h
  refine ew_iload_n 1 d_XModel_plainest_13 rfl rfl ?_
  refine ew_bipush (7) d_XModel_plainest_14 (by decide +kernel) ?_
  refine ew_icmp_ne 58 d_XModel_plainest_16 (by decide) (fun c1 => ?_) (fun c1 => ?_)
  · rw [if_neg c1] at h
    refine ew_iload_n 1 d_XModel_plainest_58 rfl rfl ?_
    refine ew_bipush (8) d_XModel_plainest_59 (by decide +kernel) ?_
    refine ew_icmp_ne 101 d_XModel_plainest_61 (by decide) (fun c2 => ?_) (fun c2 => ?_)
    · rw [if_neg c2] at h
      refine ew_iload_n 1 d_XModel_plainest_101 rfl rfl ?_
      refine ew_bipush (9) d_XModel_plainest_102 (by decide +kernel) ?_
      refine ew_icmp_ne 137 d_XModel_plainest_104 (by decide) (fun c3 => ?_) (fun c3 => ?_)
      · rw [if_neg c3] at h
        refine ew_iconst (-1) d_XModel_plainest_137 (by decide) ?_
        obtain ⟨hz, hm⟩ := Prod.mk.inj (Option.some.inj h)
        exact ew_ireturn d_XModel_plainest_138 rfl hz.symm hm.symm
      · rw [if_pos c3] at h
        refine ew_iload_n 2 d_XModel_plainest_107 rfl rfl ?_
        refine ew_iconst (1) d_XModel_plainest_108 (by decide) ?_
        refine ew_icmp_ne 116 d_XModel_plainest_109 (by decide) (fun c4 => ?_) (fun c4 => ?_)
        · rw [if_neg c4] at h
          refine ew_iload_n 2 d_XModel_plainest_116 rfl rfl ?_
          refine ew_if_ne 125 d_XModel_plainest_117 (by decide) (fun c5 => ?_) (fun c5 => ?_)
          · rw [if_neg c5] at h
            refine ew_iload_n 3 d_XModel_plainest_125 rfl rfl ?_
            refine ew_iload d_XModel_plainest_126 rfl ?_
            refine ew_icmp_ne 135 d_XModel_plainest_128 (by decide) (fun c6 => ?_) (fun c6 => ?_)
            · rw [if_neg c6] at h
              refine ew_iconst (-1) d_XModel_plainest_135 (by decide) ?_
              exact ew_pick (L' := []) [] rfl (E_XModel_plainest_136 hn hl h)
            · rw [if_pos c6] at h
              refine ew_iload_n 3 d_XModel_plainest_131 rfl rfl ?_
              refine ew_goto 136 d_XModel_plainest_132 (by decide) ?_
              exact ew_pick (L' := []) [] rfl (E_XModel_plainest_136 hn hl h)
          · rw [if_pos c5] at h
            refine ew_iload d_XModel_plainest_120 rfl ?_
            refine ew_goto 136 d_XModel_plainest_122 (by decide) ?_
            exact ew_pick (L' := []) [] rfl (E_XModel_plainest_136 hn hl h)
        · rw [if_pos c4] at h
          refine ew_iload_n 3 d_XModel_plainest_112 rfl rfl ?_
          refine ew_goto 136 d_XModel_plainest_113 (by decide) ?_
          exact ew_pick (L' := []) [] rfl (E_XModel_plainest_136 hn hl h)
    · rw [if_pos c2] at h
      refine ew_iload_n 2 d_XModel_plainest_64 rfl rfl ?_
      refine ew_if_eq 72 d_XModel_plainest_65 (by decide) (fun c7 => ?_) (fun c7 => ?_)
      · rw [if_pos c7] at h
        exact ew_pick (L' := []) [] rfl (E_XModel_plainest_72 hn hl h)
      · rw [if_neg c7] at h
        refine ew_iload_n 3 d_XModel_plainest_68 rfl rfl ?_
        refine ew_if_ne 76 d_XModel_plainest_69 (by decide) (fun c8 => ?_) (fun c8 => ?_)
        · rw [if_neg c8] at h
          refine ew_iload_n 2 d_XModel_plainest_76 rfl rfl ?_
          refine ew_iconst (1) d_XModel_plainest_77 (by decide) ?_
          refine ew_icmp_ne 85 d_XModel_plainest_78 (by decide) (fun c9 => ?_) (fun c9 => ?_)
          · rw [if_neg c9] at h
            refine ew_iload_n 3 d_XModel_plainest_85 rfl rfl ?_
            refine ew_iconst (1) d_XModel_plainest_86 (by decide) ?_
            refine ew_icmp_eq 95 d_XModel_plainest_87 (by decide) (fun c10 => ?_) (fun c10 => ?_)
            · rw [if_pos c10] at h
              exact ew_pick (L' := [(2, .int l2)]) [2] rfl (E_XModel_plainest_95 hn hl h)
            · rw [if_neg c10] at h
              refine ew_iload_n 2 d_XModel_plainest_90 rfl rfl ?_
              refine ew_iload_n 3 d_XModel_plainest_91 rfl rfl ?_
              refine ew_icmp_ne 99 d_XModel_plainest_92 (by decide) (fun c11 => ?_) (fun c11 => ?_)
              · rw [if_neg c11] at h
                refine ew_iconst (-1) d_XModel_plainest_99 (by decide) ?_
                exact ew_pick (L' := []) [] rfl (E_XModel_plainest_100 hn hl h)
              · rw [if_pos c11] at h
                exact ew_pick (L' := [(2, .int l2)]) [2] rfl (E_XModel_plainest_95 hn hl h)
          · rw [if_pos c9] at h
            refine ew_iload_n 3 d_XModel_plainest_81 rfl rfl ?_
            refine ew_goto 100 d_XModel_plainest_82 (by decide) ?_
            exact ew_pick (L' := []) [] rfl (E_XModel_plainest_100 hn hl h)
        · rw [if_pos c8] at h
          exact ew_pick (L' := []) [] rfl (E_XModel_plainest_72 hn hl h)
  · rw [if_pos c1] at h
    refine ew_iload_n 2 d_XModel_plainest_19 rfl rfl ?_
    refine ew_iconst (1) d_XModel_plainest_20 (by decide) ?_
    refine ew_icmp_ne 28 d_XModel_plainest_21 (by decide) (fun c12 => ?_) (fun c12 => ?_)
    · rw [if_neg c12] at h
      refine ew_iload_n 2 d_XModel_plainest_28 rfl rfl ?_
      refine ew_if_ne 36 d_XModel_plainest_29 (by decide) (fun c13 => ?_) (fun c13 => ?_)
      · rw [if_neg c13] at h
        refine ew_aload_n 0 d_XModel_plainest_36 rfl rfl ?_
        obtain ⟨v14, av14, bv14, h⟩ := gR_inv h
        refine ew_gR 8 3 d_XModel_plainest_37 fl_XModel_13 av14 bv14 ?_
        refine ew_iload_n 2 d_XModel_plainest_40 rfl rfl ?_
        obtain ⟨v15, av15, bv15, cv15, ev15, h⟩ := lI_inv h
        refine ew_lI d_XModel_plainest_41 av15 bv15 cv15 ev15 ?_
        refine ew_bipush (7) d_XModel_plainest_42 (by decide +kernel) ?_
        refine ew_icmp_ne 56 d_XModel_plainest_44 (by decide) (fun c16 => ?_) (fun c16 => ?_)
        · rw [if_neg c16] at h
          refine ew_iconst (-1) d_XModel_plainest_56 (by decide) ?_
          exact ew_pick (L' := []) [] rfl (E_XModel_plainest_57 hn hl h)
        · rw [if_pos c16] at h
          refine ew_aload_n 0 d_XModel_plainest_47 rfl rfl ?_
          obtain ⟨v17, av17, bv17, h⟩ := gR_inv h
          refine ew_gR 8 4 d_XModel_plainest_48 fl_XModel_17 av17 bv17 ?_
          refine ew_iload_n 2 d_XModel_plainest_51 rfl rfl ?_
          obtain ⟨v18, av18, bv18, cv18, ev18, h⟩ := lI_inv h
          refine ew_lI d_XModel_plainest_52 av18 bv18 cv18 ev18 ?_
          refine ew_goto 57 d_XModel_plainest_53 (by decide) ?_
          exact ew_pick (L' := []) [] rfl (E_XModel_plainest_57 hn hl h)
      · rw [if_pos c13] at h
        refine ew_iconst (1) d_XModel_plainest_32 (by decide) ?_
        refine ew_goto 57 d_XModel_plainest_33 (by decide) ?_
        exact ew_pick (L' := []) [] rfl (E_XModel_plainest_57 hn hl h)
    · rw [if_pos c12] at h
      refine ew_iconst (0) d_XModel_plainest_24 (by decide) ?_
      refine ew_goto 57 d_XModel_plainest_25 (by decide) ?_
      exact ew_pick (L' := []) [] rfl (E_XModel_plainest_57 hn hl h)
def F_XModel_plainest (n : Nat) (l0 : Nat) (l1 : Int32) (l2 : Int32) (l3 : Int32) (l4 : Int32) (M : PM) : qO :=
  if l1 = (6 : Int32) then
    if l2 = l3 then
      some (.inl (some (.int (1 : Int32))), M)
    else
      F_XModel_plainest_13 n l0 l1 l2 l3 l4 M
  else
    F_XModel_plainest_13 n l0 l1 l2 l3 l4 M
set_option maxHeartbeats 4000000 in
set_option maxRecDepth 100000 in
theorem E_XModel_plainest {g : qG} {X : qX} {Z : qZ} (hn : 0 ≤ zn Z) (hl : 0 ≤ zl Z) {n : Nat} {l0 : Nat} {l1 : Int32} {l2 : Int32} {l3 : Int32} {l4 : Int32} {M : PM} (h : F_XModel_plainest n l0 l1 l2 l3 l4 M = some (zr Z, zf Z)) : EW Y_XModel_plainest g X Z 0 [(0, .ref l0), (1, .int l1), (2, .int l2), (3, .int l3), (4, .int l4)] [] M := by
  unfold F_XModel_plainest at h
  refine ew_iload_n 1 d_XModel_plainest_0 rfl rfl ?_
  refine ew_bipush (6) d_XModel_plainest_1 (by decide +kernel) ?_
  refine ew_icmp_ne 13 d_XModel_plainest_3 (by decide) (fun c1 => ?_) (fun c1 => ?_)
  · rw [if_neg c1] at h
    exact E_XModel_plainest_13 hn hl h
  · rw [if_pos c1] at h
    refine ew_iload_n 2 d_XModel_plainest_6 rfl rfl ?_
    refine ew_iload_n 3 d_XModel_plainest_7 rfl rfl ?_
    refine ew_icmp_ne 13 d_XModel_plainest_8 (by decide) (fun c2 => ?_) (fun c2 => ?_)
    · rw [if_neg c2] at h
      exact E_XModel_plainest_13 hn hl h
    · rw [if_pos c2] at h
      refine ew_iconst (1) d_XModel_plainest_11 (by decide) ?_
      obtain ⟨hz, hm⟩ := Prod.mk.inj (Option.some.inj h)
      exact ew_ireturn d_XModel_plainest_12 rfl hz.symm hm.symm
theorem T_XModel_plainest {n : Nat} {l0 : Nat} {l1 : Int32} {l2 : Int32} {l3 : Int32} {l4 : Int32} {M Mf : PM} {res : qRs} (h : F_XModel_plainest n l0 l1 l2 l3 l4 M = some (res, Mf)) : CT Y_XModel_plainest 0 0 [.ref l0, .int l1, .int l2, .int l3, .int l4] M res Mf :=
  CT_of (by decide) (Nat.le_of_ble_eq_true rfl) (fun g X ad0 => E_XModel_plainest (g := g) (X := X) (Z := (ad0, M, res, Mf, 0, 0)) (Nat.le_refl _) (Nat.le_refl _) h)
theorem d_XModel_make_0 : decode Y_XModel_make.2.1 0 = .ok (.aload_n 0, 1) := by decide +kernel
theorem d_XModel_make_1 : decode Y_XModel_make.2.1 1 = .ok (.iload_n 1, 1) := by decide +kernel
theorem d_XModel_make_2 : decode Y_XModel_make.2.1 2 = .ok (.iload_n 2, 1) := by decide +kernel
theorem d_XModel_make_3 : decode Y_XModel_make.2.1 3 = .ok (.iload_n 3, 1) := by decide +kernel
theorem d_XModel_make_4 : decode Y_XModel_make.2.1 4 = .ok (.iload 4, 2) := by decide +kernel
theorem d_XModel_make_6 : decode Y_XModel_make.2.1 6 = .ok (.invokevirtual 105, 3) := by decide +kernel
theorem d_XModel_make_9 : decode Y_XModel_make.2.1 9 = .ok (.istore 5, 2) := by decide +kernel
theorem d_XModel_make_11 : decode Y_XModel_make.2.1 11 = .ok (.iload 5, 2) := by decide +kernel
theorem d_XModel_make_13 : decode Y_XModel_make.2.1 13 = .ok (.ifCond .lt (6), 3) := by decide +kernel
theorem d_XModel_make_16 : decode Y_XModel_make.2.1 16 = .ok (.iload 5, 2) := by decide +kernel
theorem d_XModel_make_18 : decode Y_XModel_make.2.1 18 = .ok (.ireturn, 1) := by decide +kernel
theorem d_XModel_make_19 : decode Y_XModel_make.2.1 19 = .ok (.iload_n 1, 1) := by decide +kernel
theorem d_XModel_make_20 : decode Y_XModel_make.2.1 20 = .ok (.bipush (6), 2) := by decide +kernel
theorem d_XModel_make_22 : decode Y_XModel_make.2.1 22 = .ok (.if_icmp .eq (9), 3) := by decide +kernel
theorem d_XModel_make_25 : decode Y_XModel_make.2.1 25 = .ok (.iload_n 1, 1) := by decide +kernel
theorem d_XModel_make_26 : decode Y_XModel_make.2.1 26 = .ok (.bipush (8), 2) := by decide +kernel
theorem d_XModel_make_28 : decode Y_XModel_make.2.1 28 = .ok (.if_icmp .ne (12), 3) := by decide +kernel
theorem d_XModel_make_31 : decode Y_XModel_make.2.1 31 = .ok (.iload_n 3, 1) := by decide +kernel
theorem d_XModel_make_32 : decode Y_XModel_make.2.1 32 = .ok (.iload_n 2, 1) := by decide +kernel
theorem d_XModel_make_33 : decode Y_XModel_make.2.1 33 = .ok (.if_icmp .ge (7), 3) := by decide +kernel
theorem d_XModel_make_36 : decode Y_XModel_make.2.1 36 = .ok (.iconst 1, 1) := by decide +kernel
theorem d_XModel_make_37 : decode Y_XModel_make.2.1 37 = .ok (.goto (4), 3) := by decide +kernel
theorem d_XModel_make_40 : decode Y_XModel_make.2.1 40 = .ok (.iconst 0, 1) := by decide +kernel
theorem d_XModel_make_41 : decode Y_XModel_make.2.1 41 = .ok (.istore 6, 2) := by decide +kernel
theorem d_XModel_make_43 : decode Y_XModel_make.2.1 43 = .ok (.aload_n 0, 1) := by decide +kernel
theorem d_XModel_make_44 : decode Y_XModel_make.2.1 44 = .ok (.iload_n 1, 1) := by decide +kernel
theorem d_XModel_make_45 : decode Y_XModel_make.2.1 45 = .ok (.iload 6, 2) := by decide +kernel
theorem d_XModel_make_47 : decode Y_XModel_make.2.1 47 = .ok (.ifCond .eq (7), 3) := by decide +kernel
theorem d_XModel_make_50 : decode Y_XModel_make.2.1 50 = .ok (.iload_n 3, 1) := by decide +kernel
theorem d_XModel_make_51 : decode Y_XModel_make.2.1 51 = .ok (.goto (4), 3) := by decide +kernel
theorem d_XModel_make_54 : decode Y_XModel_make.2.1 54 = .ok (.iload_n 2, 1) := by decide +kernel
theorem d_XModel_make_55 : decode Y_XModel_make.2.1 55 = .ok (.iload 6, 2) := by decide +kernel
theorem d_XModel_make_57 : decode Y_XModel_make.2.1 57 = .ok (.ifCond .eq (7), 3) := by decide +kernel
theorem d_XModel_make_60 : decode Y_XModel_make.2.1 60 = .ok (.iload_n 2, 1) := by decide +kernel
theorem d_XModel_make_61 : decode Y_XModel_make.2.1 61 = .ok (.goto (4), 3) := by decide +kernel
theorem d_XModel_make_64 : decode Y_XModel_make.2.1 64 = .ok (.iload_n 3, 1) := by decide +kernel
theorem d_XModel_make_65 : decode Y_XModel_make.2.1 65 = .ok (.iload 4, 2) := by decide +kernel
theorem d_XModel_make_67 : decode Y_XModel_make.2.1 67 = .ok (.invokevirtual 108, 3) := by decide +kernel
theorem d_XModel_make_70 : decode Y_XModel_make.2.1 70 = .ok (.ireturn, 1) := by decide +kernel
def F_XModel_make_65 (n : Nat) (l4 : Int32) (s0 : Nat) (s1 : Int32) (s2 : Int32) (s3 : Int32) (M : PM) : qO :=
  kO 8 M s0 (
  cI (F_XModel_get n s0 s1 s2 s3 l4 M) (fun v2 M1 =>
  some (.inl (some (.int v2)), M1)))
set_option maxHeartbeats 4000000 in
set_option maxRecDepth 100000 in
theorem E_XModel_make_65 {g : qG} {X : qX} {Z : qZ} (hn : 4 ≤ zn Z) (hl : 94 ≤ zl Z) {n : Nat} {l4 : Int32} {s0 : Nat} {s1 : Int32} {s2 : Int32} {s3 : Int32} {M : PM} (h : F_XModel_make_65 n l4 s0 s1 s2 s3 M = some (zr Z, zf Z)) : EW Y_XModel_make g X Z 65 [(4, .int l4)] [.int s3, .int s2, .int s1, .ref s0] M := by
  unfold F_XModel_make_65 at h
  refine ew_iload d_XModel_make_65 rfl ?_
  obtain ⟨kM1, h⟩ := kO_inv h
  obtain ⟨v2, M1, hM1, h⟩ := cI_inv h
  refine ew_callV 8 [.int s1, .int s2, .int s3, .int l4] d_XModel_make_67 cv_XModel_108 (T_XModel_get hM1) kM1 (Nat.le_trans (Nat.le_of_ble_eq_true rfl) hn) (Nat.le_trans (Nat.le_of_ble_eq_true rfl) hl) (Nat.le_of_ble_eq_true rfl) rfl rfl ?_
  obtain ⟨hz, hm⟩ := Prod.mk.inj (Option.some.inj h)
  exact ew_ireturn d_XModel_make_70 rfl hz.symm hm.symm
def F_XModel_make_55 (n : Nat) (l2 : Int32) (l3 : Int32) (l4 : Int32) (l6 : Int32) (s0 : Nat) (s1 : Int32) (s2 : Int32) (M : PM) : qO :=
  if l6 = (0 : Int32) then
    F_XModel_make_65 n l4 s0 s1 s2 l3 M
  else
    F_XModel_make_65 n l4 s0 s1 s2 l2 M
set_option maxHeartbeats 4000000 in
set_option maxRecDepth 100000 in
theorem E_XModel_make_55 {g : qG} {X : qX} {Z : qZ} (hn : 4 ≤ zn Z) (hl : 94 ≤ zl Z) {n : Nat} {l2 : Int32} {l3 : Int32} {l4 : Int32} {l6 : Int32} {s0 : Nat} {s1 : Int32} {s2 : Int32} {M : PM} (h : F_XModel_make_55 n l2 l3 l4 l6 s0 s1 s2 M = some (zr Z, zf Z)) : EW Y_XModel_make g X Z 55 [(2, .int l2), (3, .int l3), (4, .int l4), (6, .int l6)] [.int s2, .int s1, .ref s0] M := by
  unfold F_XModel_make_55 at h
  refine ew_iload d_XModel_make_55 rfl ?_
  refine ew_if_eq 64 d_XModel_make_57 (by decide) (fun c1 => ?_) (fun c1 => ?_)
  · rw [if_pos c1] at h
    refine ew_iload_n 3 d_XModel_make_64 rfl rfl ?_
    exact ew_pick (L' := [(4, .int l4)]) [2] rfl (E_XModel_make_65 hn hl h)
  · rw [if_neg c1] at h
    refine ew_iload_n 2 d_XModel_make_60 rfl rfl ?_
    refine ew_goto 65 d_XModel_make_61 (by decide) ?_
    exact ew_pick (L' := [(4, .int l4)]) [2] rfl (E_XModel_make_65 hn hl h)
def F_XModel_make_41 (n : Nat) (l0 : Nat) (l1 : Int32) (l2 : Int32) (l3 : Int32) (l4 : Int32) (s0 : Int32) (M : PM) : qO :=
  if s0 = (0 : Int32) then
    F_XModel_make_55 n l2 l3 l4 s0 l0 l1 l2 M
  else
    F_XModel_make_55 n l2 l3 l4 s0 l0 l1 l3 M
set_option maxHeartbeats 4000000 in
set_option maxRecDepth 100000 in
theorem E_XModel_make_41 {g : qG} {X : qX} {Z : qZ} (hn : 4 ≤ zn Z) (hl : 94 ≤ zl Z) {n : Nat} {l0 : Nat} {l1 : Int32} {l2 : Int32} {l3 : Int32} {l4 : Int32} {s0 : Int32} {M : PM} (h : F_XModel_make_41 n l0 l1 l2 l3 l4 s0 M = some (zr Z, zf Z)) : EW Y_XModel_make g X Z 41 [(0, .ref l0), (1, .int l1), (2, .int l2), (3, .int l3), (4, .int l4)] [.int s0] M := by
  unfold F_XModel_make_41 at h
  refine ew_istore (L' := [(0, .ref l0), (1, .int l1), (2, .int l2), (3, .int l3), (4, .int l4), (6, .int s0)]) [1, 2, 3, 4, 5, 0] d_XModel_make_41 (by decide) rfl ?_
  refine ew_aload_n 0 d_XModel_make_43 rfl rfl ?_
  refine ew_iload_n 1 d_XModel_make_44 rfl rfl ?_
  refine ew_iload d_XModel_make_45 rfl ?_
  refine ew_if_eq 54 d_XModel_make_47 (by decide) (fun c1 => ?_) (fun c1 => ?_)
  · rw [if_pos c1] at h
    refine ew_iload_n 2 d_XModel_make_54 rfl rfl ?_
    exact ew_pick (L' := [(2, .int l2), (3, .int l3), (4, .int l4), (6, .int s0)]) [2, 3, 4, 5] rfl (E_XModel_make_55 hn hl h)
  · rw [if_neg c1] at h
    refine ew_iload_n 3 d_XModel_make_50 rfl rfl ?_
    refine ew_goto 55 d_XModel_make_51 (by decide) ?_
    exact ew_pick (L' := [(2, .int l2), (3, .int l3), (4, .int l4), (6, .int s0)]) [2, 3, 4, 5] rfl (E_XModel_make_55 hn hl h)
def F_XModel_make_40 (n : Nat) (l0 : Nat) (l1 : Int32) (l2 : Int32) (l3 : Int32) (l4 : Int32) (M : PM) : qO :=
  F_XModel_make_41 n l0 l1 l2 l3 l4 (0 : Int32) M
set_option maxHeartbeats 4000000 in
set_option maxRecDepth 100000 in
theorem E_XModel_make_40 {g : qG} {X : qX} {Z : qZ} (hn : 4 ≤ zn Z) (hl : 94 ≤ zl Z) {n : Nat} {l0 : Nat} {l1 : Int32} {l2 : Int32} {l3 : Int32} {l4 : Int32} {M : PM} (h : F_XModel_make_40 n l0 l1 l2 l3 l4 M = some (zr Z, zf Z)) : EW Y_XModel_make g X Z 40 [(0, .ref l0), (1, .int l1), (2, .int l2), (3, .int l3), (4, .int l4)] [] M := by
  unfold F_XModel_make_40 at h
  refine ew_iconst (0) d_XModel_make_40 (by decide) ?_
  exact E_XModel_make_41 hn hl h
def F_XModel_make_31 (n : Nat) (l0 : Nat) (l1 : Int32) (l2 : Int32) (l3 : Int32) (l4 : Int32) (M : PM) : qO :=
  if l2 ≤ l3 then
    F_XModel_make_40 n l0 l1 l2 l3 l4 M
  else
    F_XModel_make_41 n l0 l1 l2 l3 l4 (1 : Int32) M
set_option maxHeartbeats 4000000 in
set_option maxRecDepth 100000 in
theorem E_XModel_make_31 {g : qG} {X : qX} {Z : qZ} (hn : 4 ≤ zn Z) (hl : 94 ≤ zl Z) {n : Nat} {l0 : Nat} {l1 : Int32} {l2 : Int32} {l3 : Int32} {l4 : Int32} {M : PM} (h : F_XModel_make_31 n l0 l1 l2 l3 l4 M = some (zr Z, zf Z)) : EW Y_XModel_make g X Z 31 [(0, .ref l0), (1, .int l1), (2, .int l2), (3, .int l3), (4, .int l4)] [] M := by
  unfold F_XModel_make_31 at h
  refine ew_iload_n 3 d_XModel_make_31 rfl rfl ?_
  refine ew_iload_n 2 d_XModel_make_32 rfl rfl ?_
  refine ew_icmp_ge 40 d_XModel_make_33 (by decide) (fun c1 => ?_) (fun c1 => ?_)
  · rw [if_pos c1] at h
    exact E_XModel_make_40 hn hl h
  · rw [if_neg c1] at h
    refine ew_iconst (1) d_XModel_make_36 (by decide) ?_
    refine ew_goto 41 d_XModel_make_37 (by decide) ?_
    exact E_XModel_make_41 hn hl h
def F_XModel_make (n : Nat) (l0 : Nat) (l1 : Int32) (l2 : Int32) (l3 : Int32) (l4 : Int32) (M : PM) : qO :=
  kO 8 M l0 (
  cI (F_XModel_plainest n l0 l1 l2 l3 l4 M) (fun v2 M1 =>
  if v2 < (0 : Int32) then
    if l1 = (6 : Int32) then
      F_XModel_make_31 n l0 l1 l2 l3 l4 M1
    else
      if l1 = (8 : Int32) then
        F_XModel_make_31 n l0 l1 l2 l3 l4 M1
      else
        F_XModel_make_40 n l0 l1 l2 l3 l4 M1
  else
    some (.inl (some (.int v2)), M1)))
set_option maxHeartbeats 4000000 in
set_option maxRecDepth 100000 in
theorem E_XModel_make {g : qG} {X : qX} {Z : qZ} (hn : 4 ≤ zn Z) (hl : 94 ≤ zl Z) {n : Nat} {l0 : Nat} {l1 : Int32} {l2 : Int32} {l3 : Int32} {l4 : Int32} {M : PM} (h : F_XModel_make n l0 l1 l2 l3 l4 M = some (zr Z, zf Z)) : EW Y_XModel_make g X Z 0 [(0, .ref l0), (1, .int l1), (2, .int l2), (3, .int l3), (4, .int l4)] [] M := by
  unfold F_XModel_make at h
  refine ew_aload_n 0 d_XModel_make_0 rfl rfl ?_
  refine ew_iload_n 1 d_XModel_make_1 rfl rfl ?_
  refine ew_iload_n 2 d_XModel_make_2 rfl rfl ?_
  refine ew_iload_n 3 d_XModel_make_3 rfl rfl ?_
  refine ew_iload d_XModel_make_4 rfl ?_
  obtain ⟨kM1, h⟩ := kO_inv h
  obtain ⟨v2, M1, hM1, h⟩ := cI_inv h
  refine ew_callV 8 [.int l1, .int l2, .int l3, .int l4] d_XModel_make_6 cv_XModel_105 (T_XModel_plainest hM1) kM1 (Nat.le_trans (Nat.le_of_ble_eq_true rfl) hn) (Nat.le_trans (Nat.le_of_ble_eq_true rfl) hl) (Nat.le_of_ble_eq_true rfl) rfl rfl ?_
  refine ew_istore (L' := [(0, .ref l0), (1, .int l1), (2, .int l2), (3, .int l3), (4, .int l4), (5, .int v2)]) [1, 2, 3, 4, 5, 0] d_XModel_make_9 (by decide) rfl ?_
  refine ew_iload d_XModel_make_11 rfl ?_
  refine ew_if_lt 19 d_XModel_make_13 (by decide) (fun c3 => ?_) (fun c3 => ?_)
  · rw [if_pos c3] at h
    refine ew_iload_n 1 d_XModel_make_19 rfl rfl ?_
    refine ew_bipush (6) d_XModel_make_20 (by decide +kernel) ?_
    refine ew_icmp_eq 31 d_XModel_make_22 (by decide) (fun c4 => ?_) (fun c4 => ?_)
    · rw [if_pos c4] at h
      exact ew_pick (L' := [(0, .ref l0), (1, .int l1), (2, .int l2), (3, .int l3), (4, .int l4)]) [0, 1, 2, 3, 4] rfl (E_XModel_make_31 hn hl h)
    · rw [if_neg c4] at h
      refine ew_iload_n 1 d_XModel_make_25 rfl rfl ?_
      refine ew_bipush (8) d_XModel_make_26 (by decide +kernel) ?_
      refine ew_icmp_ne 40 d_XModel_make_28 (by decide) (fun c5 => ?_) (fun c5 => ?_)
      · rw [if_neg c5] at h
        exact ew_pick (L' := [(0, .ref l0), (1, .int l1), (2, .int l2), (3, .int l3), (4, .int l4)]) [0, 1, 2, 3, 4] rfl (E_XModel_make_40 hn hl h)
      · rw [if_pos c5] at h
        exact ew_pick (L' := [(0, .ref l0), (1, .int l1), (2, .int l2), (3, .int l3), (4, .int l4)]) [0, 1, 2, 3, 4] rfl (E_XModel_make_31 hn hl h)
  · rw [if_neg c3] at h
    refine ew_iload d_XModel_make_16 rfl ?_
    obtain ⟨hz, hm⟩ := Prod.mk.inj (Option.some.inj h)
    exact ew_ireturn d_XModel_make_18 rfl hz.symm hm.symm
theorem T_XModel_make {n : Nat} {l0 : Nat} {l1 : Int32} {l2 : Int32} {l3 : Int32} {l4 : Int32} {M Mf : PM} {res : qRs} (h : F_XModel_make n l0 l1 l2 l3 l4 M = some (res, Mf)) : CT Y_XModel_make 4 94 [.ref l0, .int l1, .int l2, .int l3, .int l4] M res Mf :=
  CT_of (by decide) (Nat.le_of_ble_eq_true rfl) (fun g X ad0 => E_XModel_make (g := g) (X := X) (Z := (ad0, M, res, Mf, 4, 94)) (Nat.le_refl _) (Nat.le_refl _) h)
theorem d_XModel_told_0 : decode Y_XModel_told.2.1 0 = .ok (.aload_n 0, 1) := by decide +kernel
theorem d_XModel_told_1 : decode Y_XModel_told.2.1 1 = .ok (.iload_n 1, 1) := by decide +kernel
theorem d_XModel_told_2 : decode Y_XModel_told.2.1 2 = .ok (.iload_n 2, 1) := by decide +kernel
theorem d_XModel_told_3 : decode Y_XModel_told.2.1 3 = .ok (.iload_n 3, 1) := by decide +kernel
theorem d_XModel_told_4 : decode Y_XModel_told.2.1 4 = .ok (.iload 4, 2) := by decide +kernel
theorem d_XModel_told_6 : decode Y_XModel_told.2.1 6 = .ok (.invokevirtual 105, 3) := by decide +kernel
theorem d_XModel_told_9 : decode Y_XModel_told.2.1 9 = .ok (.istore 6, 2) := by decide +kernel
theorem d_XModel_told_11 : decode Y_XModel_told.2.1 11 = .ok (.iload 6, 2) := by decide +kernel
theorem d_XModel_told_13 : decode Y_XModel_told.2.1 13 = .ok (.ifCond .lt (6), 3) := by decide +kernel
theorem d_XModel_told_16 : decode Y_XModel_told.2.1 16 = .ok (.iload 6, 2) := by decide +kernel
theorem d_XModel_told_18 : decode Y_XModel_told.2.1 18 = .ok (.ireturn, 1) := by decide +kernel
theorem d_XModel_told_19 : decode Y_XModel_told.2.1 19 = .ok (.iload_n 1, 1) := by decide +kernel
theorem d_XModel_told_20 : decode Y_XModel_told.2.1 20 = .ok (.bipush (6), 2) := by decide +kernel
theorem d_XModel_told_22 : decode Y_XModel_told.2.1 22 = .ok (.if_icmp .eq (9), 3) := by decide +kernel
theorem d_XModel_told_25 : decode Y_XModel_told.2.1 25 = .ok (.iload_n 1, 1) := by decide +kernel
theorem d_XModel_told_26 : decode Y_XModel_told.2.1 26 = .ok (.bipush (8), 2) := by decide +kernel
theorem d_XModel_told_28 : decode Y_XModel_told.2.1 28 = .ok (.if_icmp .ne (12), 3) := by decide +kernel
theorem d_XModel_told_31 : decode Y_XModel_told.2.1 31 = .ok (.iload_n 3, 1) := by decide +kernel
theorem d_XModel_told_32 : decode Y_XModel_told.2.1 32 = .ok (.iload_n 2, 1) := by decide +kernel
theorem d_XModel_told_33 : decode Y_XModel_told.2.1 33 = .ok (.if_icmp .ge (7), 3) := by decide +kernel
theorem d_XModel_told_36 : decode Y_XModel_told.2.1 36 = .ok (.iconst 1, 1) := by decide +kernel
theorem d_XModel_told_37 : decode Y_XModel_told.2.1 37 = .ok (.goto (4), 3) := by decide +kernel
theorem d_XModel_told_40 : decode Y_XModel_told.2.1 40 = .ok (.iconst 0, 1) := by decide +kernel
theorem d_XModel_told_41 : decode Y_XModel_told.2.1 41 = .ok (.istore 7, 2) := by decide +kernel
theorem d_XModel_told_43 : decode Y_XModel_told.2.1 43 = .ok (.aload_n 0, 1) := by decide +kernel
theorem d_XModel_told_44 : decode Y_XModel_told.2.1 44 = .ok (.invokevirtual 84, 3) := by decide +kernel
theorem d_XModel_told_47 : decode Y_XModel_told.2.1 47 = .ok (.aload_n 0, 1) := by decide +kernel
theorem d_XModel_told_48 : decode Y_XModel_told.2.1 48 = .ok (.iload_n 1, 1) := by decide +kernel
theorem d_XModel_told_49 : decode Y_XModel_told.2.1 49 = .ok (.iload 7, 2) := by decide +kernel
theorem d_XModel_told_51 : decode Y_XModel_told.2.1 51 = .ok (.ifCond .eq (7), 3) := by decide +kernel
theorem d_XModel_told_54 : decode Y_XModel_told.2.1 54 = .ok (.iload_n 3, 1) := by decide +kernel
theorem d_XModel_told_55 : decode Y_XModel_told.2.1 55 = .ok (.goto (4), 3) := by decide +kernel
theorem d_XModel_told_58 : decode Y_XModel_told.2.1 58 = .ok (.iload_n 2, 1) := by decide +kernel
theorem d_XModel_told_59 : decode Y_XModel_told.2.1 59 = .ok (.iload 7, 2) := by decide +kernel
theorem d_XModel_told_61 : decode Y_XModel_told.2.1 61 = .ok (.ifCond .eq (7), 3) := by decide +kernel
theorem d_XModel_told_64 : decode Y_XModel_told.2.1 64 = .ok (.iload_n 2, 1) := by decide +kernel
theorem d_XModel_told_65 : decode Y_XModel_told.2.1 65 = .ok (.goto (4), 3) := by decide +kernel
theorem d_XModel_told_68 : decode Y_XModel_told.2.1 68 = .ok (.iload_n 3, 1) := by decide +kernel
theorem d_XModel_told_69 : decode Y_XModel_told.2.1 69 = .ok (.iload 4, 2) := by decide +kernel
theorem d_XModel_told_71 : decode Y_XModel_told.2.1 71 = .ok (.invokevirtual 99, 3) := by decide +kernel
theorem d_XModel_told_74 : decode Y_XModel_told.2.1 74 = .ok (.istore 6, 2) := by decide +kernel
theorem d_XModel_told_76 : decode Y_XModel_told.2.1 76 = .ok (.iload 6, 2) := by decide +kernel
theorem d_XModel_told_78 : decode Y_XModel_told.2.1 78 = .ok (.ifCond .lt (6), 3) := by decide +kernel
theorem d_XModel_told_81 : decode Y_XModel_told.2.1 81 = .ok (.iload 6, 2) := by decide +kernel
theorem d_XModel_told_83 : decode Y_XModel_told.2.1 83 = .ok (.ireturn, 1) := by decide +kernel
theorem d_XModel_told_84 : decode Y_XModel_told.2.1 84 = .ok (.aload_n 0, 1) := by decide +kernel
theorem d_XModel_told_85 : decode Y_XModel_told.2.1 85 = .ok (.getfield 7, 3) := by decide +kernel
theorem d_XModel_told_88 : decode Y_XModel_told.2.1 88 = .ok (.sipush (300), 3) := by decide +kernel
theorem d_XModel_told_91 : decode Y_XModel_told.2.1 91 = .ok (.if_icmp .ne (10), 3) := by decide +kernel
theorem d_XModel_told_94 : decode Y_XModel_told.2.1 94 = .ok (.aload_n 0, 1) := by decide +kernel
theorem d_XModel_told_95 : decode Y_XModel_told.2.1 95 = .ok (.iload 5, 2) := by decide +kernel
theorem d_XModel_told_97 : decode Y_XModel_told.2.1 97 = .ok (.invokevirtual 111, 3) := by decide +kernel
theorem d_XModel_told_100 : decode Y_XModel_told.2.1 100 = .ok (.ireturn, 1) := by decide +kernel
theorem d_XModel_told_101 : decode Y_XModel_told.2.1 101 = .ok (.aload_n 0, 1) := by decide +kernel
theorem d_XModel_told_102 : decode Y_XModel_told.2.1 102 = .ok (.iload_n 1, 1) := by decide +kernel
theorem d_XModel_told_103 : decode Y_XModel_told.2.1 103 = .ok (.iload 7, 2) := by decide +kernel
theorem d_XModel_told_105 : decode Y_XModel_told.2.1 105 = .ok (.ifCond .eq (7), 3) := by decide +kernel
theorem d_XModel_told_108 : decode Y_XModel_told.2.1 108 = .ok (.iload_n 3, 1) := by decide +kernel
theorem d_XModel_told_109 : decode Y_XModel_told.2.1 109 = .ok (.goto (4), 3) := by decide +kernel
theorem d_XModel_told_112 : decode Y_XModel_told.2.1 112 = .ok (.iload_n 2, 1) := by decide +kernel
theorem d_XModel_told_113 : decode Y_XModel_told.2.1 113 = .ok (.iload 7, 2) := by decide +kernel
theorem d_XModel_told_115 : decode Y_XModel_told.2.1 115 = .ok (.ifCond .eq (7), 3) := by decide +kernel
theorem d_XModel_told_118 : decode Y_XModel_told.2.1 118 = .ok (.iload_n 2, 1) := by decide +kernel
theorem d_XModel_told_119 : decode Y_XModel_told.2.1 119 = .ok (.goto (4), 3) := by decide +kernel
theorem d_XModel_told_122 : decode Y_XModel_told.2.1 122 = .ok (.iload_n 3, 1) := by decide +kernel
theorem d_XModel_told_123 : decode Y_XModel_told.2.1 123 = .ok (.iload 4, 2) := by decide +kernel
theorem d_XModel_told_125 : decode Y_XModel_told.2.1 125 = .ok (.invokevirtual 102, 3) := by decide +kernel
theorem d_XModel_told_128 : decode Y_XModel_told.2.1 128 = .ok (.istore 6, 2) := by decide +kernel
theorem d_XModel_told_130 : decode Y_XModel_told.2.1 130 = .ok (.aload_n 0, 1) := by decide +kernel
theorem d_XModel_told_131 : decode Y_XModel_told.2.1 131 = .ok (.dup, 1) := by decide +kernel
theorem d_XModel_told_132 : decode Y_XModel_told.2.1 132 = .ok (.getfield 7, 3) := by decide +kernel
theorem d_XModel_told_135 : decode Y_XModel_told.2.1 135 = .ok (.iconst 1, 1) := by decide +kernel
theorem d_XModel_told_136 : decode Y_XModel_told.2.1 136 = .ok (.iadd, 1) := by decide +kernel
theorem d_XModel_told_137 : decode Y_XModel_told.2.1 137 = .ok (.putfield 7, 3) := by decide +kernel
theorem d_XModel_told_140 : decode Y_XModel_told.2.1 140 = .ok (.iload 6, 2) := by decide +kernel
theorem d_XModel_told_142 : decode Y_XModel_told.2.1 142 = .ok (.ireturn, 1) := by decide +kernel
def F_XModel_told_123 (n : Nat) (l0 : Nat) (l4 : Int32) (s0 : Nat) (s1 : Int32) (s2 : Int32) (s3 : Int32) (M : PM) : qO :=
  kO 8 M s0 (
  cI (F_XModel_add n s0 s1 s2 s3 l4 M) (fun v2 M1 =>
  gI 8 M1 l0 1 (fun v3 =>
  pF 8 M1 l0 1 (.int (v3 + (1 : Int32))) (fun M4 =>
  some (.inl (some (.int v2)), M4)))))
set_option maxHeartbeats 4000000 in
set_option maxRecDepth 100000 in
theorem E_XModel_told_123 {g : qG} {X : qX} {Z : qZ} (hn : 3 ≤ zn Z) (hl : 69 ≤ zl Z) {n : Nat} {l0 : Nat} {l4 : Int32} {s0 : Nat} {s1 : Int32} {s2 : Int32} {s3 : Int32} {M : PM} (h : F_XModel_told_123 n l0 l4 s0 s1 s2 s3 M = some (zr Z, zf Z)) : EW Y_XModel_told g X Z 123 [(0, .ref l0), (4, .int l4)] [.int s3, .int s2, .int s1, .ref s0] M := by
  unfold F_XModel_told_123 at h
  refine ew_iload d_XModel_told_123 rfl ?_
  obtain ⟨kM1, h⟩ := kO_inv h
  obtain ⟨v2, M1, hM1, h⟩ := cI_inv h
  refine ew_callV 8 [.int s1, .int s2, .int s3, .int l4] d_XModel_told_125 cv_XModel_102 (T_XModel_add hM1) kM1 (Nat.le_trans (Nat.le_of_ble_eq_true rfl) hn) (Nat.le_trans (Nat.le_of_ble_eq_true rfl) hl) (Nat.le_of_ble_eq_true rfl) rfl rfl ?_
  refine ew_istore (L' := [(0, .ref l0), (4, .int l4), (6, .int v2)]) [1, 2, 0] d_XModel_told_128 (by decide) rfl ?_
  refine ew_aload_n 0 d_XModel_told_130 rfl rfl ?_
  refine ew_dup d_XModel_told_131 rfl ?_
  obtain ⟨v3, av3, bv3, h⟩ := gI_inv h
  refine ew_gI 8 1 d_XModel_told_132 fl_XModel_7 av3 bv3 ?_
  refine ew_iconst (1) d_XModel_told_135 (by decide) ?_
  refine ew_iadd d_XModel_told_136 ?_
  obtain ⟨M4, aM4, eM4, h⟩ := pF_inv h
  refine ew_pF 8 1 d_XModel_told_137 fl_XModel_7 aM4 eM4 (fun ad => ⟨rfl, rfl⟩) ?_
  refine ew_iload d_XModel_told_140 rfl ?_
  obtain ⟨hz, hm⟩ := Prod.mk.inj (Option.some.inj h)
  exact ew_ireturn d_XModel_told_142 rfl hz.symm hm.symm
def F_XModel_told_113 (n : Nat) (l0 : Nat) (l2 : Int32) (l3 : Int32) (l4 : Int32) (l7 : Int32) (s0 : Nat) (s1 : Int32) (s2 : Int32) (M : PM) : qO :=
  if l7 = (0 : Int32) then
    F_XModel_told_123 n l0 l4 s0 s1 s2 l3 M
  else
    F_XModel_told_123 n l0 l4 s0 s1 s2 l2 M
set_option maxHeartbeats 4000000 in
set_option maxRecDepth 100000 in
theorem E_XModel_told_113 {g : qG} {X : qX} {Z : qZ} (hn : 3 ≤ zn Z) (hl : 69 ≤ zl Z) {n : Nat} {l0 : Nat} {l2 : Int32} {l3 : Int32} {l4 : Int32} {l7 : Int32} {s0 : Nat} {s1 : Int32} {s2 : Int32} {M : PM} (h : F_XModel_told_113 n l0 l2 l3 l4 l7 s0 s1 s2 M = some (zr Z, zf Z)) : EW Y_XModel_told g X Z 113 [(0, .ref l0), (2, .int l2), (3, .int l3), (4, .int l4), (7, .int l7)] [.int s2, .int s1, .ref s0] M := by
  unfold F_XModel_told_113 at h
  refine ew_iload d_XModel_told_113 rfl ?_
  refine ew_if_eq 122 d_XModel_told_115 (by decide) (fun c1 => ?_) (fun c1 => ?_)
  · rw [if_pos c1] at h
    refine ew_iload_n 3 d_XModel_told_122 rfl rfl ?_
    exact ew_pick (L' := [(0, .ref l0), (4, .int l4)]) [0, 3] rfl (E_XModel_told_123 hn hl h)
  · rw [if_neg c1] at h
    refine ew_iload_n 2 d_XModel_told_118 rfl rfl ?_
    refine ew_goto 123 d_XModel_told_119 (by decide) ?_
    exact ew_pick (L' := [(0, .ref l0), (4, .int l4)]) [0, 3] rfl (E_XModel_told_123 hn hl h)
def F_XModel_told_69 (n : Nat) (l0 : Nat) (l1 : Int32) (l2 : Int32) (l3 : Int32) (l4 : Int32) (l5 : Int32) (l7 : Int32) (s0 : Nat) (s1 : Int32) (s2 : Int32) (s3 : Int32) (M : PM) : qO :=
  kO 8 M s0 (
  cI (F_XModel_find n s0 s1 s2 s3 l4 M) (fun v2 M1 =>
  if v2 < (0 : Int32) then
    gI 8 M1 l0 1 (fun v4 =>
    if v4 = (300 : Int32) then
      kO 8 M1 l0 (
      cI (F_XModel_fail n l0 l5 M1) (fun v8 M7 =>
      some (.inl (some (.int v8)), M7)))
    else
      if l7 = (0 : Int32) then
        F_XModel_told_113 n l0 l2 l3 l4 l7 l0 l1 l2 M1
      else
        F_XModel_told_113 n l0 l2 l3 l4 l7 l0 l1 l3 M1)
  else
    some (.inl (some (.int v2)), M1)))
set_option maxHeartbeats 4000000 in
set_option maxRecDepth 100000 in
theorem E_XModel_told_69 {g : qG} {X : qX} {Z : qZ} (hn : 3 ≤ zn Z) (hl : 69 ≤ zl Z) {n : Nat} {l0 : Nat} {l1 : Int32} {l2 : Int32} {l3 : Int32} {l4 : Int32} {l5 : Int32} {l7 : Int32} {s0 : Nat} {s1 : Int32} {s2 : Int32} {s3 : Int32} {M : PM} (h : F_XModel_told_69 n l0 l1 l2 l3 l4 l5 l7 s0 s1 s2 s3 M = some (zr Z, zf Z)) : EW Y_XModel_told g X Z 69 [(0, .ref l0), (1, .int l1), (2, .int l2), (3, .int l3), (4, .int l4), (5, .int l5), (7, .int l7)] [.int s3, .int s2, .int s1, .ref s0] M := by
  unfold F_XModel_told_69 at h
  refine ew_iload d_XModel_told_69 rfl ?_
  obtain ⟨kM1, h⟩ := kO_inv h
  obtain ⟨v2, M1, hM1, h⟩ := cI_inv h
  refine ew_callV 8 [.int s1, .int s2, .int s3, .int l4] d_XModel_told_71 cv_XModel_99 (T_XModel_find hM1) kM1 (Nat.le_trans (Nat.le_of_ble_eq_true rfl) hn) (Nat.le_trans (Nat.le_of_ble_eq_true rfl) hl) (Nat.le_of_ble_eq_true rfl) rfl rfl ?_
  refine ew_istore (L' := [(0, .ref l0), (1, .int l1), (2, .int l2), (3, .int l3), (4, .int l4), (5, .int l5), (6, .int v2), (7, .int l7)]) [1, 2, 3, 4, 5, 6, 0, 7] d_XModel_told_74 (by decide) rfl ?_
  refine ew_iload d_XModel_told_76 rfl ?_
  refine ew_if_lt 84 d_XModel_told_78 (by decide) (fun c3 => ?_) (fun c3 => ?_)
  · rw [if_pos c3] at h
    refine ew_aload_n 0 d_XModel_told_84 rfl rfl ?_
    obtain ⟨v4, av4, bv4, h⟩ := gI_inv h
    refine ew_gI 8 1 d_XModel_told_85 fl_XModel_7 av4 bv4 ?_
    refine ew_sipush (300) d_XModel_told_88 (by decide +kernel) ?_
    refine ew_icmp_ne 101 d_XModel_told_91 (by decide) (fun c5 => ?_) (fun c5 => ?_)
    · rw [if_neg c5] at h
      refine ew_aload_n 0 d_XModel_told_101 rfl rfl ?_
      refine ew_iload_n 1 d_XModel_told_102 rfl rfl ?_
      refine ew_iload d_XModel_told_103 rfl ?_
      refine ew_if_eq 112 d_XModel_told_105 (by decide) (fun c6 => ?_) (fun c6 => ?_)
      · rw [if_pos c6] at h
        refine ew_iload_n 2 d_XModel_told_112 rfl rfl ?_
        exact ew_pick (L' := [(0, .ref l0), (2, .int l2), (3, .int l3), (4, .int l4), (7, .int l7)]) [0, 2, 3, 4, 7] rfl (E_XModel_told_113 hn hl h)
      · rw [if_neg c6] at h
        refine ew_iload_n 3 d_XModel_told_108 rfl rfl ?_
        refine ew_goto 113 d_XModel_told_109 (by decide) ?_
        exact ew_pick (L' := [(0, .ref l0), (2, .int l2), (3, .int l3), (4, .int l4), (7, .int l7)]) [0, 2, 3, 4, 7] rfl (E_XModel_told_113 hn hl h)
    · rw [if_pos c5] at h
      refine ew_aload_n 0 d_XModel_told_94 rfl rfl ?_
      refine ew_iload d_XModel_told_95 rfl ?_
      obtain ⟨kM7, h⟩ := kO_inv h
      obtain ⟨v8, M7, hM7, h⟩ := cI_inv h
      refine ew_callV 8 [.int l5] d_XModel_told_97 cv_XModel_111 (T_XModel_fail hM7) kM7 (Nat.le_trans (Nat.le_of_ble_eq_true rfl) hn) (Nat.le_trans (Nat.le_of_ble_eq_true rfl) hl) (Nat.le_of_ble_eq_true rfl) rfl rfl ?_
      obtain ⟨hz, hm⟩ := Prod.mk.inj (Option.some.inj h)
      exact ew_ireturn d_XModel_told_100 rfl hz.symm hm.symm
  · rw [if_neg c3] at h
    refine ew_iload d_XModel_told_81 rfl ?_
    obtain ⟨hz, hm⟩ := Prod.mk.inj (Option.some.inj h)
    exact ew_ireturn d_XModel_told_83 rfl hz.symm hm.symm
def F_XModel_told_59 (n : Nat) (l0 : Nat) (l1 : Int32) (l2 : Int32) (l3 : Int32) (l4 : Int32) (l5 : Int32) (l7 : Int32) (s0 : Nat) (s1 : Int32) (s2 : Int32) (M : PM) : qO :=
  if l7 = (0 : Int32) then
    F_XModel_told_69 n l0 l1 l2 l3 l4 l5 l7 s0 s1 s2 l3 M
  else
    F_XModel_told_69 n l0 l1 l2 l3 l4 l5 l7 s0 s1 s2 l2 M
set_option maxHeartbeats 4000000 in
set_option maxRecDepth 100000 in
theorem E_XModel_told_59 {g : qG} {X : qX} {Z : qZ} (hn : 3 ≤ zn Z) (hl : 69 ≤ zl Z) {n : Nat} {l0 : Nat} {l1 : Int32} {l2 : Int32} {l3 : Int32} {l4 : Int32} {l5 : Int32} {l7 : Int32} {s0 : Nat} {s1 : Int32} {s2 : Int32} {M : PM} (h : F_XModel_told_59 n l0 l1 l2 l3 l4 l5 l7 s0 s1 s2 M = some (zr Z, zf Z)) : EW Y_XModel_told g X Z 59 [(0, .ref l0), (1, .int l1), (2, .int l2), (3, .int l3), (4, .int l4), (5, .int l5), (7, .int l7)] [.int s2, .int s1, .ref s0] M := by
  unfold F_XModel_told_59 at h
  refine ew_iload d_XModel_told_59 rfl ?_
  refine ew_if_eq 68 d_XModel_told_61 (by decide) (fun c1 => ?_) (fun c1 => ?_)
  · rw [if_pos c1] at h
    refine ew_iload_n 3 d_XModel_told_68 rfl rfl ?_
    exact E_XModel_told_69 hn hl h
  · rw [if_neg c1] at h
    refine ew_iload_n 2 d_XModel_told_64 rfl rfl ?_
    refine ew_goto 69 d_XModel_told_65 (by decide) ?_
    exact E_XModel_told_69 hn hl h
def F_XModel_told_41 (n : Nat) (l0 : Nat) (l1 : Int32) (l2 : Int32) (l3 : Int32) (l4 : Int32) (l5 : Int32) (s0 : Int32) (M : PM) : qO :=
  kO 8 M l0 (
  cV (F_XModel_begin n l0 M) (fun M1 =>
  if s0 = (0 : Int32) then
    F_XModel_told_59 n l0 l1 l2 l3 l4 l5 s0 l0 l1 l2 M1
  else
    F_XModel_told_59 n l0 l1 l2 l3 l4 l5 s0 l0 l1 l3 M1))
set_option maxHeartbeats 4000000 in
set_option maxRecDepth 100000 in
theorem E_XModel_told_41 {g : qG} {X : qX} {Z : qZ} (hn : 3 ≤ zn Z) (hl : 69 ≤ zl Z) {n : Nat} {l0 : Nat} {l1 : Int32} {l2 : Int32} {l3 : Int32} {l4 : Int32} {l5 : Int32} {s0 : Int32} {M : PM} (h : F_XModel_told_41 n l0 l1 l2 l3 l4 l5 s0 M = some (zr Z, zf Z)) : EW Y_XModel_told g X Z 41 [(0, .ref l0), (1, .int l1), (2, .int l2), (3, .int l3), (4, .int l4), (5, .int l5)] [.int s0] M := by
  unfold F_XModel_told_41 at h
  refine ew_istore (L' := [(0, .ref l0), (1, .int l1), (2, .int l2), (3, .int l3), (4, .int l4), (5, .int l5), (7, .int s0)]) [1, 2, 3, 4, 5, 6, 0] d_XModel_told_41 (by decide) rfl ?_
  refine ew_aload_n 0 d_XModel_told_43 rfl rfl ?_
  obtain ⟨kM1, h⟩ := kO_inv h
  obtain ⟨M1, hM1, h⟩ := cV_inv h
  refine ew_callV 8 [] d_XModel_told_44 cv_XModel_84 (T_XModel_begin hM1) kM1 (Nat.le_trans (Nat.le_of_ble_eq_true rfl) hn) (Nat.le_trans (Nat.le_of_ble_eq_true rfl) hl) (Nat.le_of_ble_eq_true rfl) rfl rfl ?_
  refine ew_aload_n 0 d_XModel_told_47 rfl rfl ?_
  refine ew_iload_n 1 d_XModel_told_48 rfl rfl ?_
  refine ew_iload d_XModel_told_49 rfl ?_
  refine ew_if_eq 58 d_XModel_told_51 (by decide) (fun c2 => ?_) (fun c2 => ?_)
  · rw [if_pos c2] at h
    refine ew_iload_n 2 d_XModel_told_58 rfl rfl ?_
    exact E_XModel_told_59 hn hl h
  · rw [if_neg c2] at h
    refine ew_iload_n 3 d_XModel_told_54 rfl rfl ?_
    refine ew_goto 59 d_XModel_told_55 (by decide) ?_
    exact E_XModel_told_59 hn hl h
def F_XModel_told_40 (n : Nat) (l0 : Nat) (l1 : Int32) (l2 : Int32) (l3 : Int32) (l4 : Int32) (l5 : Int32) (M : PM) : qO :=
  F_XModel_told_41 n l0 l1 l2 l3 l4 l5 (0 : Int32) M
set_option maxHeartbeats 4000000 in
set_option maxRecDepth 100000 in
theorem E_XModel_told_40 {g : qG} {X : qX} {Z : qZ} (hn : 3 ≤ zn Z) (hl : 69 ≤ zl Z) {n : Nat} {l0 : Nat} {l1 : Int32} {l2 : Int32} {l3 : Int32} {l4 : Int32} {l5 : Int32} {M : PM} (h : F_XModel_told_40 n l0 l1 l2 l3 l4 l5 M = some (zr Z, zf Z)) : EW Y_XModel_told g X Z 40 [(0, .ref l0), (1, .int l1), (2, .int l2), (3, .int l3), (4, .int l4), (5, .int l5)] [] M := by
  unfold F_XModel_told_40 at h
  refine ew_iconst (0) d_XModel_told_40 (by decide) ?_
  exact E_XModel_told_41 hn hl h
def F_XModel_told_31 (n : Nat) (l0 : Nat) (l1 : Int32) (l2 : Int32) (l3 : Int32) (l4 : Int32) (l5 : Int32) (M : PM) : qO :=
  if l2 ≤ l3 then
    F_XModel_told_40 n l0 l1 l2 l3 l4 l5 M
  else
    F_XModel_told_41 n l0 l1 l2 l3 l4 l5 (1 : Int32) M
set_option maxHeartbeats 4000000 in
set_option maxRecDepth 100000 in
theorem E_XModel_told_31 {g : qG} {X : qX} {Z : qZ} (hn : 3 ≤ zn Z) (hl : 69 ≤ zl Z) {n : Nat} {l0 : Nat} {l1 : Int32} {l2 : Int32} {l3 : Int32} {l4 : Int32} {l5 : Int32} {M : PM} (h : F_XModel_told_31 n l0 l1 l2 l3 l4 l5 M = some (zr Z, zf Z)) : EW Y_XModel_told g X Z 31 [(0, .ref l0), (1, .int l1), (2, .int l2), (3, .int l3), (4, .int l4), (5, .int l5)] [] M := by
  unfold F_XModel_told_31 at h
  refine ew_iload_n 3 d_XModel_told_31 rfl rfl ?_
  refine ew_iload_n 2 d_XModel_told_32 rfl rfl ?_
  refine ew_icmp_ge 40 d_XModel_told_33 (by decide) (fun c1 => ?_) (fun c1 => ?_)
  · rw [if_pos c1] at h
    exact E_XModel_told_40 hn hl h
  · rw [if_neg c1] at h
    refine ew_iconst (1) d_XModel_told_36 (by decide) ?_
    refine ew_goto 41 d_XModel_told_37 (by decide) ?_
    exact E_XModel_told_41 hn hl h
def F_XModel_told (n : Nat) (l0 : Nat) (l1 : Int32) (l2 : Int32) (l3 : Int32) (l4 : Int32) (l5 : Int32) (M : PM) : qO :=
  kO 8 M l0 (
  cI (F_XModel_plainest n l0 l1 l2 l3 l4 M) (fun v2 M1 =>
  if v2 < (0 : Int32) then
    if l1 = (6 : Int32) then
      F_XModel_told_31 n l0 l1 l2 l3 l4 l5 M1
    else
      if l1 = (8 : Int32) then
        F_XModel_told_31 n l0 l1 l2 l3 l4 l5 M1
      else
        F_XModel_told_40 n l0 l1 l2 l3 l4 l5 M1
  else
    some (.inl (some (.int v2)), M1)))
set_option maxHeartbeats 4000000 in
set_option maxRecDepth 100000 in
theorem E_XModel_told {g : qG} {X : qX} {Z : qZ} (hn : 3 ≤ zn Z) (hl : 69 ≤ zl Z) {n : Nat} {l0 : Nat} {l1 : Int32} {l2 : Int32} {l3 : Int32} {l4 : Int32} {l5 : Int32} {M : PM} (h : F_XModel_told n l0 l1 l2 l3 l4 l5 M = some (zr Z, zf Z)) : EW Y_XModel_told g X Z 0 [(0, .ref l0), (1, .int l1), (2, .int l2), (3, .int l3), (4, .int l4), (5, .int l5)] [] M := by
  unfold F_XModel_told at h
  refine ew_aload_n 0 d_XModel_told_0 rfl rfl ?_
  refine ew_iload_n 1 d_XModel_told_1 rfl rfl ?_
  refine ew_iload_n 2 d_XModel_told_2 rfl rfl ?_
  refine ew_iload_n 3 d_XModel_told_3 rfl rfl ?_
  refine ew_iload d_XModel_told_4 rfl ?_
  obtain ⟨kM1, h⟩ := kO_inv h
  obtain ⟨v2, M1, hM1, h⟩ := cI_inv h
  refine ew_callV 8 [.int l1, .int l2, .int l3, .int l4] d_XModel_told_6 cv_XModel_105 (T_XModel_plainest hM1) kM1 (Nat.le_trans (Nat.le_of_ble_eq_true rfl) hn) (Nat.le_trans (Nat.le_of_ble_eq_true rfl) hl) (Nat.le_of_ble_eq_true rfl) rfl rfl ?_
  refine ew_istore (L' := [(0, .ref l0), (1, .int l1), (2, .int l2), (3, .int l3), (4, .int l4), (5, .int l5), (6, .int v2)]) [1, 2, 3, 4, 5, 6, 0] d_XModel_told_9 (by decide) rfl ?_
  refine ew_iload d_XModel_told_11 rfl ?_
  refine ew_if_lt 19 d_XModel_told_13 (by decide) (fun c3 => ?_) (fun c3 => ?_)
  · rw [if_pos c3] at h
    refine ew_iload_n 1 d_XModel_told_19 rfl rfl ?_
    refine ew_bipush (6) d_XModel_told_20 (by decide +kernel) ?_
    refine ew_icmp_eq 31 d_XModel_told_22 (by decide) (fun c4 => ?_) (fun c4 => ?_)
    · rw [if_pos c4] at h
      exact ew_pick (L' := [(0, .ref l0), (1, .int l1), (2, .int l2), (3, .int l3), (4, .int l4), (5, .int l5)]) [0, 1, 2, 3, 4, 5] rfl (E_XModel_told_31 hn hl h)
    · rw [if_neg c4] at h
      refine ew_iload_n 1 d_XModel_told_25 rfl rfl ?_
      refine ew_bipush (8) d_XModel_told_26 (by decide +kernel) ?_
      refine ew_icmp_ne 40 d_XModel_told_28 (by decide) (fun c5 => ?_) (fun c5 => ?_)
      · rw [if_neg c5] at h
        exact ew_pick (L' := [(0, .ref l0), (1, .int l1), (2, .int l2), (3, .int l3), (4, .int l4), (5, .int l5)]) [0, 1, 2, 3, 4, 5] rfl (E_XModel_told_40 hn hl h)
      · rw [if_pos c5] at h
        exact ew_pick (L' := [(0, .ref l0), (1, .int l1), (2, .int l2), (3, .int l3), (4, .int l4), (5, .int l5)]) [0, 1, 2, 3, 4, 5] rfl (E_XModel_told_31 hn hl h)
  · rw [if_neg c3] at h
    refine ew_iload d_XModel_told_16 rfl ?_
    obtain ⟨hz, hm⟩ := Prod.mk.inj (Option.some.inj h)
    exact ew_ireturn d_XModel_told_18 rfl hz.symm hm.symm
theorem T_XModel_told {n : Nat} {l0 : Nat} {l1 : Int32} {l2 : Int32} {l3 : Int32} {l4 : Int32} {l5 : Int32} {M Mf : PM} {res : qRs} (h : F_XModel_told n l0 l1 l2 l3 l4 l5 M = some (res, Mf)) : CT Y_XModel_told 3 69 [.ref l0, .int l1, .int l2, .int l3, .int l4, .int l5] M res Mf :=
  CT_of (by decide) (Nat.le_of_ble_eq_true rfl) (fun g X ad0 => E_XModel_told (g := g) (X := X) (Z := (ad0, M, res, Mf, 3, 69)) (Nat.le_refl _) (Nat.le_refl _) h)
theorem d_XModel_isNode_0 : decode Y_XModel_isNode.2.1 0 = .ok (.iload_n 1, 1) := by decide +kernel
theorem d_XModel_isNode_1 : decode Y_XModel_isNode.2.1 1 = .ok (.iconst 0, 1) := by decide +kernel
theorem d_XModel_isNode_2 : decode Y_XModel_isNode.2.1 2 = .ok (.aload_n 0, 1) := by decide +kernel
theorem d_XModel_isNode_3 : decode Y_XModel_isNode.2.1 3 = .ok (.getfield 7, 3) := by decide +kernel
theorem d_XModel_isNode_6 : decode Y_XModel_isNode.2.1 6 = .ok (.iconst 1, 1) := by decide +kernel
theorem d_XModel_isNode_7 : decode Y_XModel_isNode.2.1 7 = .ok (.isub, 1) := by decide +kernel
theorem d_XModel_isNode_8 : decode Y_XModel_isNode.2.1 8 = .ok (.invokestatic 115, 3) := by decide +kernel
theorem d_XModel_isNode_11 : decode Y_XModel_isNode.2.1 11 = .ok (.ireturn, 1) := by decide +kernel
def F_XModel_isNode (n : Nat) (l0 : Nat) (l1 : Int32) (M : PM) : qO :=
  gI 8 M l0 1 (fun v1 =>
  cI (F_XModel_within n l1 (0 : Int32) (v1 - (1 : Int32)) M) (fun v3 M2 =>
  rZ v3 M2))
set_option maxHeartbeats 4000000 in
set_option maxRecDepth 100000 in
theorem E_XModel_isNode {g : qG} {X : qX} {Z : qZ} (hn : 1 ≤ zn Z) (hl : 22 ≤ zl Z) {n : Nat} {l0 : Nat} {l1 : Int32} {M : PM} (h : F_XModel_isNode n l0 l1 M = some (zr Z, zf Z)) : EW Y_XModel_isNode g X Z 0 [(0, .ref l0), (1, .int l1)] [] M := by
  unfold F_XModel_isNode at h
  refine ew_iload_n 1 d_XModel_isNode_0 rfl rfl ?_
  refine ew_iconst (0) d_XModel_isNode_1 (by decide) ?_
  refine ew_aload_n 0 d_XModel_isNode_2 rfl rfl ?_
  obtain ⟨v1, av1, bv1, h⟩ := gI_inv h
  refine ew_gI 8 1 d_XModel_isNode_3 fl_XModel_7 av1 bv1 ?_
  refine ew_iconst (1) d_XModel_isNode_6 (by decide) ?_
  refine ew_isub d_XModel_isNode_7 ?_
  obtain ⟨v3, M2, hM2, h⟩ := cI_inv h
  refine ew_callS [.int l1, .int (0 : Int32), .int (v1 - (1 : Int32))] d_XModel_isNode_8 cs_XModel_115 (T_XModel_within hM2) (Nat.le_trans (Nat.le_of_ble_eq_true rfl) hn) (Nat.le_trans (Nat.le_of_ble_eq_true rfl) hl) (Nat.le_of_ble_eq_true rfl) rfl rfl ?_
  obtain ⟨hb, h⟩ := rZ_inv h
  obtain ⟨hz, hm⟩ := Prod.mk.inj (Option.some.inj h)
  exact ew_zreturn d_XModel_isNode_11 rfl hz.symm hm.symm hb
theorem T_XModel_isNode {n : Nat} {l0 : Nat} {l1 : Int32} {M Mf : PM} {res : qRs} (h : F_XModel_isNode n l0 l1 M = some (res, Mf)) : CT Y_XModel_isNode 1 22 [.ref l0, .int l1] M res Mf :=
  CT_of (by decide) (Nat.le_of_ble_eq_true rfl) (fun g X ad0 => E_XModel_isNode (g := g) (X := X) (Z := (ad0, M, res, Mf, 1, 22)) (Nat.le_refl _) (Nat.le_refl _) h)
theorem d_XModel_isWord_0 : decode Y_XModel_isWord.2.1 0 = .ok (.iload_n 1, 1) := by decide +kernel
theorem d_XModel_isWord_1 : decode Y_XModel_isWord.2.1 1 = .ok (.istore_n 2, 1) := by decide +kernel
theorem d_XModel_isWord_2 : decode Y_XModel_isWord.2.1 2 = .ok (.aload_n 0, 1) := by decide +kernel
theorem d_XModel_isWord_3 : decode Y_XModel_isWord.2.1 3 = .ok (.getfield 13, 3) := by decide +kernel
theorem d_XModel_isWord_6 : decode Y_XModel_isWord.2.1 6 = .ok (.iload_n 2, 1) := by decide +kernel
theorem d_XModel_isWord_7 : decode Y_XModel_isWord.2.1 7 = .ok (.iaload, 1) := by decide +kernel
theorem d_XModel_isWord_8 : decode Y_XModel_isWord.2.1 8 = .ok (.bipush (9), 2) := by decide +kernel
theorem d_XModel_isWord_10 : decode Y_XModel_isWord.2.1 10 = .ok (.if_icmp .ne (13), 3) := by decide +kernel
theorem d_XModel_isWord_13 : decode Y_XModel_isWord.2.1 13 = .ok (.aload_n 0, 1) := by decide +kernel
theorem d_XModel_isWord_14 : decode Y_XModel_isWord.2.1 14 = .ok (.getfield 20, 3) := by decide +kernel
theorem d_XModel_isWord_17 : decode Y_XModel_isWord.2.1 17 = .ok (.iload_n 2, 1) := by decide +kernel
theorem d_XModel_isWord_18 : decode Y_XModel_isWord.2.1 18 = .ok (.iaload, 1) := by decide +kernel
theorem d_XModel_isWord_19 : decode Y_XModel_isWord.2.1 19 = .ok (.istore_n 2, 1) := by decide +kernel
theorem d_XModel_isWord_20 : decode Y_XModel_isWord.2.1 20 = .ok (.goto (-18), 3) := by decide +kernel
theorem d_XModel_isWord_23 : decode Y_XModel_isWord.2.1 23 = .ok (.aload_n 0, 1) := by decide +kernel
theorem d_XModel_isWord_24 : decode Y_XModel_isWord.2.1 24 = .ok (.getfield 13, 3) := by decide +kernel
theorem d_XModel_isWord_27 : decode Y_XModel_isWord.2.1 27 = .ok (.iload_n 2, 1) := by decide +kernel
theorem d_XModel_isWord_28 : decode Y_XModel_isWord.2.1 28 = .ok (.iaload, 1) := by decide +kernel
theorem d_XModel_isWord_29 : decode Y_XModel_isWord.2.1 29 = .ok (.iconst 3, 1) := by decide +kernel
theorem d_XModel_isWord_30 : decode Y_XModel_isWord.2.1 30 = .ok (.if_icmp .eq (13), 3) := by decide +kernel
theorem d_XModel_isWord_33 : decode Y_XModel_isWord.2.1 33 = .ok (.aload_n 0, 1) := by decide +kernel
theorem d_XModel_isWord_34 : decode Y_XModel_isWord.2.1 34 = .ok (.getfield 13, 3) := by decide +kernel
theorem d_XModel_isWord_37 : decode Y_XModel_isWord.2.1 37 = .ok (.iload_n 2, 1) := by decide +kernel
theorem d_XModel_isWord_38 : decode Y_XModel_isWord.2.1 38 = .ok (.iaload, 1) := by decide +kernel
theorem d_XModel_isWord_39 : decode Y_XModel_isWord.2.1 39 = .ok (.iconst 5, 1) := by decide +kernel
theorem d_XModel_isWord_40 : decode Y_XModel_isWord.2.1 40 = .ok (.if_icmp .ne (7), 3) := by decide +kernel
theorem d_XModel_isWord_43 : decode Y_XModel_isWord.2.1 43 = .ok (.iconst 1, 1) := by decide +kernel
theorem d_XModel_isWord_44 : decode Y_XModel_isWord.2.1 44 = .ok (.goto (4), 3) := by decide +kernel
theorem d_XModel_isWord_47 : decode Y_XModel_isWord.2.1 47 = .ok (.iconst 0, 1) := by decide +kernel
theorem d_XModel_isWord_48 : decode Y_XModel_isWord.2.1 48 = .ok (.ireturn, 1) := by decide +kernel
def F_XModel_isWord_48 (n : Nat) (s0 : Int32) (M : PM) : qO :=
  rZ s0 M
set_option maxHeartbeats 4000000 in
set_option maxRecDepth 100000 in
theorem E_XModel_isWord_48 {g : qG} {X : qX} {Z : qZ} (hn : 0 ≤ zn Z) (hl : 0 ≤ zl Z) {n : Nat} {s0 : Int32} {M : PM} (h : F_XModel_isWord_48 n s0 M = some (zr Z, zf Z)) : EW Y_XModel_isWord g X Z 48 [] [.int s0] M := by
  unfold F_XModel_isWord_48 at h
  obtain ⟨hb, h⟩ := rZ_inv h
  obtain ⟨hz, hm⟩ := Prod.mk.inj (Option.some.inj h)
  exact ew_zreturn d_XModel_isWord_48 rfl hz.symm hm.symm hb
def F_XModel_isWord_43 (n : Nat) (M : PM) : qO :=
  F_XModel_isWord_48 n (1 : Int32) M
set_option maxHeartbeats 4000000 in
set_option maxRecDepth 100000 in
theorem E_XModel_isWord_43 {g : qG} {X : qX} {Z : qZ} (hn : 0 ≤ zn Z) (hl : 0 ≤ zl Z) {n : Nat} {M : PM} (h : F_XModel_isWord_43 n M = some (zr Z, zf Z)) : EW Y_XModel_isWord g X Z 43 [] [] M := by
  unfold F_XModel_isWord_43 at h
  refine ew_iconst (1) d_XModel_isWord_43 (by decide) ?_
  refine ew_goto 48 d_XModel_isWord_44 (by decide) ?_
  exact E_XModel_isWord_48 hn hl h
def F_XModel_isWord_2 (n : Nat) : Nat → Nat → Int32 → PM → qO
  | 0, _, _, _ => none
  | f + 1, l0, l2, M =>
    gR 8 M l0 3 (fun v1 =>
    lI M v1 l2 (fun v2 =>
    if v2 = (9 : Int32) then
      gR 8 M l0 5 (fun v10 =>
      lI M v10 l2 (fun v11 =>
      (F_XModel_isWord_2 n f) l0 v11 M))
    else
      gR 8 M l0 3 (fun v4 =>
      lI M v4 l2 (fun v5 =>
      if v5 = (3 : Int32) then
        F_XModel_isWord_43 n M
      else
        gR 8 M l0 3 (fun v7 =>
        lI M v7 l2 (fun v8 =>
        if v8 = (5 : Int32) then
          F_XModel_isWord_43 n M
        else
          F_XModel_isWord_48 n (0 : Int32) M))))))
set_option maxHeartbeats 4000000 in
set_option maxRecDepth 100000 in
theorem E_XModel_isWord_2 {g : qG} {X : qX} {Z : qZ} (hn : 0 ≤ zn Z) (hl : 0 ≤ zl Z) {n : Nat} : ∀ (f : Nat) (l0 : Nat) (l2 : Int32) (M : PM), F_XModel_isWord_2 n f l0 l2 M = some (zr Z, zf Z) → EW Y_XModel_isWord g X Z 2 [(0, .ref l0), (2, .int l2)] [] M := by
  intro f
  induction f with
  | zero => intro l0 l2 M h; rw [F_XModel_isWord_2] at h; cases h
  | succ f ih =>
    intro l0 l2 M h
    rw [F_XModel_isWord_2] at h
    refine ew_aload_n 0 d_XModel_isWord_2 rfl rfl ?_
    obtain ⟨v1, av1, bv1, h⟩ := gR_inv h
    refine ew_gR 8 3 d_XModel_isWord_3 fl_XModel_13 av1 bv1 ?_
    refine ew_iload_n 2 d_XModel_isWord_6 rfl rfl ?_
    obtain ⟨v2, av2, bv2, cv2, ev2, h⟩ := lI_inv h
    refine ew_lI d_XModel_isWord_7 av2 bv2 cv2 ev2 ?_
    refine ew_bipush (9) d_XModel_isWord_8 (by decide +kernel) ?_
    refine ew_icmp_ne 23 d_XModel_isWord_10 (by decide) (fun c3 => ?_) (fun c3 => ?_)
    · rw [if_neg c3] at h
      refine ew_aload_n 0 d_XModel_isWord_23 rfl rfl ?_
      obtain ⟨v4, av4, bv4, h⟩ := gR_inv h
      refine ew_gR 8 3 d_XModel_isWord_24 fl_XModel_13 av4 bv4 ?_
      refine ew_iload_n 2 d_XModel_isWord_27 rfl rfl ?_
      obtain ⟨v5, av5, bv5, cv5, ev5, h⟩ := lI_inv h
      refine ew_lI d_XModel_isWord_28 av5 bv5 cv5 ev5 ?_
      refine ew_iconst (3) d_XModel_isWord_29 (by decide) ?_
      refine ew_icmp_eq 43 d_XModel_isWord_30 (by decide) (fun c6 => ?_) (fun c6 => ?_)
      · rw [if_pos c6] at h
        exact ew_pick (L' := []) [] rfl (E_XModel_isWord_43 hn hl h)
      · rw [if_neg c6] at h
        refine ew_aload_n 0 d_XModel_isWord_33 rfl rfl ?_
        obtain ⟨v7, av7, bv7, h⟩ := gR_inv h
        refine ew_gR 8 3 d_XModel_isWord_34 fl_XModel_13 av7 bv7 ?_
        refine ew_iload_n 2 d_XModel_isWord_37 rfl rfl ?_
        obtain ⟨v8, av8, bv8, cv8, ev8, h⟩ := lI_inv h
        refine ew_lI d_XModel_isWord_38 av8 bv8 cv8 ev8 ?_
        refine ew_iconst (5) d_XModel_isWord_39 (by decide) ?_
        refine ew_icmp_ne 47 d_XModel_isWord_40 (by decide) (fun c9 => ?_) (fun c9 => ?_)
        · rw [if_neg c9] at h
          refine ew_iconst (0) d_XModel_isWord_47 (by decide) ?_
          exact ew_pick (L' := []) [] rfl (E_XModel_isWord_48 hn hl h)
        · rw [if_pos c9] at h
          exact ew_pick (L' := []) [] rfl (E_XModel_isWord_43 hn hl h)
    · rw [if_pos c3] at h
      refine ew_aload_n 0 d_XModel_isWord_13 rfl rfl ?_
      obtain ⟨v10, av10, bv10, h⟩ := gR_inv h
      refine ew_gR 8 5 d_XModel_isWord_14 fl_XModel_20 av10 bv10 ?_
      refine ew_iload_n 2 d_XModel_isWord_17 rfl rfl ?_
      obtain ⟨v11, av11, bv11, cv11, ev11, h⟩ := lI_inv h
      refine ew_lI d_XModel_isWord_18 av11 bv11 cv11 ev11 ?_
      refine ew_istore_n (L' := [(0, .ref l0), (2, .int v11)]) 2 [1, 0] d_XModel_isWord_19 rfl (by decide) rfl ?_
      refine ew_goto 2 d_XModel_isWord_20 (by decide) ?_
      exact ih l0 v11 M h
def F_XModel_isWord (n : Nat) (l0 : Nat) (l1 : Int32) (M : PM) : qO :=
  F_XModel_isWord_2 n n l0 l1 M
set_option maxHeartbeats 4000000 in
set_option maxRecDepth 100000 in
theorem E_XModel_isWord {g : qG} {X : qX} {Z : qZ} (hn : 0 ≤ zn Z) (hl : 0 ≤ zl Z) {n : Nat} {l0 : Nat} {l1 : Int32} {M : PM} (h : F_XModel_isWord n l0 l1 M = some (zr Z, zf Z)) : EW Y_XModel_isWord g X Z 0 [(0, .ref l0), (1, .int l1)] [] M := by
  unfold F_XModel_isWord at h
  refine ew_iload_n 1 d_XModel_isWord_0 rfl rfl ?_
  refine ew_istore_n (L' := [(0, .ref l0), (1, .int l1), (2, .int l1)]) 2 [1, 2, 0] d_XModel_isWord_1 rfl (by decide) rfl ?_
  exact ew_pick (L' := [(0, .ref l0), (2, .int l1)]) [0, 2] rfl (E_XModel_isWord_2 hn hl n l0 l1 M h)
theorem T_XModel_isWord {n : Nat} {l0 : Nat} {l1 : Int32} {M Mf : PM} {res : qRs} (h : F_XModel_isWord n l0 l1 M = some (res, Mf)) : CT Y_XModel_isWord 0 0 [.ref l0, .int l1] M res Mf :=
  CT_of (by decide) (Nat.le_of_ble_eq_true rfl) (fun g X ad0 => E_XModel_isWord (g := g) (X := X) (Z := (ad0, M, res, Mf, 0, 0)) (Nat.le_refl _) (Nat.le_refl _) h)
theorem d_XModel_addElement_0 : decode Y_XModel_addElement.2.1 0 = .ok (.aload_n 0, 1) := by decide +kernel
theorem d_XModel_addElement_1 : decode Y_XModel_addElement.2.1 1 = .ok (.iconst 0, 1) := by decide +kernel
theorem d_XModel_addElement_2 : decode Y_XModel_addElement.2.1 2 = .ok (.putfield 87, 3) := by decide +kernel
theorem d_XModel_addElement_5 : decode Y_XModel_addElement.2.1 5 = .ok (.aload_n 0, 1) := by decide +kernel
theorem d_XModel_addElement_6 : decode Y_XModel_addElement.2.1 6 = .ok (.getfield 119, 3) := by decide +kernel
theorem d_XModel_addElement_9 : decode Y_XModel_addElement.2.1 9 = .ok (.bipush (16), 2) := by decide +kernel
theorem d_XModel_addElement_11 : decode Y_XModel_addElement.2.1 11 = .ok (.if_icmp .eq (13), 3) := by decide +kernel
theorem d_XModel_addElement_14 : decode Y_XModel_addElement.2.1 14 = .ok (.aload_n 0, 1) := by decide +kernel
theorem d_XModel_addElement_15 : decode Y_XModel_addElement.2.1 15 = .ok (.getfield 7, 3) := by decide +kernel
theorem d_XModel_addElement_18 : decode Y_XModel_addElement.2.1 18 = .ok (.sipush (300), 3) := by decide +kernel
theorem d_XModel_addElement_21 : decode Y_XModel_addElement.2.1 21 = .ok (.if_icmp .ne (9), 3) := by decide +kernel
theorem d_XModel_addElement_24 : decode Y_XModel_addElement.2.1 24 = .ok (.aload_n 0, 1) := by decide +kernel
theorem d_XModel_addElement_25 : decode Y_XModel_addElement.2.1 25 = .ok (.iconst 1, 1) := by decide +kernel
theorem d_XModel_addElement_26 : decode Y_XModel_addElement.2.1 26 = .ok (.invokevirtual 111, 3) := by decide +kernel
theorem d_XModel_addElement_29 : decode Y_XModel_addElement.2.1 29 = .ok (.ireturn, 1) := by decide +kernel
theorem d_XModel_addElement_30 : decode Y_XModel_addElement.2.1 30 = .ok (.aload_n 0, 1) := by decide +kernel
theorem d_XModel_addElement_31 : decode Y_XModel_addElement.2.1 31 = .ok (.invokevirtual 84, 3) := by decide +kernel
theorem d_XModel_addElement_34 : decode Y_XModel_addElement.2.1 34 = .ok (.aload_n 0, 1) := by decide +kernel
theorem d_XModel_addElement_35 : decode Y_XModel_addElement.2.1 35 = .ok (.iload_n 1, 1) := by decide +kernel
theorem d_XModel_addElement_36 : decode Y_XModel_addElement.2.1 36 = .ok (.aload_n 0, 1) := by decide +kernel
theorem d_XModel_addElement_37 : decode Y_XModel_addElement.2.1 37 = .ok (.getfield 119, 3) := by decide +kernel
theorem d_XModel_addElement_40 : decode Y_XModel_addElement.2.1 40 = .ok (.iconst (-1), 1) := by decide +kernel
theorem d_XModel_addElement_41 : decode Y_XModel_addElement.2.1 41 = .ok (.iconst (-1), 1) := by decide +kernel
theorem d_XModel_addElement_42 : decode Y_XModel_addElement.2.1 42 = .ok (.invokevirtual 102, 3) := by decide +kernel
theorem d_XModel_addElement_45 : decode Y_XModel_addElement.2.1 45 = .ok (.istore_n 2, 1) := by decide +kernel
theorem d_XModel_addElement_46 : decode Y_XModel_addElement.2.1 46 = .ok (.aload_n 0, 1) := by decide +kernel
theorem d_XModel_addElement_47 : decode Y_XModel_addElement.2.1 47 = .ok (.dup, 1) := by decide +kernel
theorem d_XModel_addElement_48 : decode Y_XModel_addElement.2.1 48 = .ok (.getfield 7, 3) := by decide +kernel
theorem d_XModel_addElement_51 : decode Y_XModel_addElement.2.1 51 = .ok (.iconst 1, 1) := by decide +kernel
theorem d_XModel_addElement_52 : decode Y_XModel_addElement.2.1 52 = .ok (.iadd, 1) := by decide +kernel
theorem d_XModel_addElement_53 : decode Y_XModel_addElement.2.1 53 = .ok (.putfield 7, 3) := by decide +kernel
theorem d_XModel_addElement_56 : decode Y_XModel_addElement.2.1 56 = .ok (.aload_n 0, 1) := by decide +kernel
theorem d_XModel_addElement_57 : decode Y_XModel_addElement.2.1 57 = .ok (.getfield 32, 3) := by decide +kernel
theorem d_XModel_addElement_60 : decode Y_XModel_addElement.2.1 60 = .ok (.aload_n 0, 1) := by decide +kernel
theorem d_XModel_addElement_61 : decode Y_XModel_addElement.2.1 61 = .ok (.getfield 119, 3) := by decide +kernel
theorem d_XModel_addElement_64 : decode Y_XModel_addElement.2.1 64 = .ok (.iload_n 2, 1) := by decide +kernel
theorem d_XModel_addElement_65 : decode Y_XModel_addElement.2.1 65 = .ok (.iastore, 1) := by decide +kernel
theorem d_XModel_addElement_66 : decode Y_XModel_addElement.2.1 66 = .ok (.aload_n 0, 1) := by decide +kernel
theorem d_XModel_addElement_67 : decode Y_XModel_addElement.2.1 67 = .ok (.getfield 35, 3) := by decide +kernel
theorem d_XModel_addElement_70 : decode Y_XModel_addElement.2.1 70 = .ok (.aload_n 0, 1) := by decide +kernel
theorem d_XModel_addElement_71 : decode Y_XModel_addElement.2.1 71 = .ok (.getfield 119, 3) := by decide +kernel
theorem d_XModel_addElement_74 : decode Y_XModel_addElement.2.1 74 = .ok (.iload_n 2, 1) := by decide +kernel
theorem d_XModel_addElement_75 : decode Y_XModel_addElement.2.1 75 = .ok (.iastore, 1) := by decide +kernel
theorem d_XModel_addElement_76 : decode Y_XModel_addElement.2.1 76 = .ok (.aload_n 0, 1) := by decide +kernel
theorem d_XModel_addElement_77 : decode Y_XModel_addElement.2.1 77 = .ok (.dup, 1) := by decide +kernel
theorem d_XModel_addElement_78 : decode Y_XModel_addElement.2.1 78 = .ok (.getfield 119, 3) := by decide +kernel
theorem d_XModel_addElement_81 : decode Y_XModel_addElement.2.1 81 = .ok (.iconst 1, 1) := by decide +kernel
theorem d_XModel_addElement_82 : decode Y_XModel_addElement.2.1 82 = .ok (.iadd, 1) := by decide +kernel
theorem d_XModel_addElement_83 : decode Y_XModel_addElement.2.1 83 = .ok (.putfield 119, 3) := by decide +kernel
theorem d_XModel_addElement_86 : decode Y_XModel_addElement.2.1 86 = .ok (.iload_n 2, 1) := by decide +kernel
theorem d_XModel_addElement_87 : decode Y_XModel_addElement.2.1 87 = .ok (.ireturn, 1) := by decide +kernel
def F_XModel_addElement_24 (n : Nat) (l0 : Nat) (M : PM) : qO :=
  kO 8 M l0 (
  cI (F_XModel_fail n l0 (1 : Int32) M) (fun v2 M1 =>
  some (.inl (some (.int v2)), M1)))
set_option maxHeartbeats 4000000 in
set_option maxRecDepth 100000 in
theorem E_XModel_addElement_24 {g : qG} {X : qX} {Z : qZ} (hn : 3 ≤ zn Z) (hl : 69 ≤ zl Z) {n : Nat} {l0 : Nat} {M : PM} (h : F_XModel_addElement_24 n l0 M = some (zr Z, zf Z)) : EW Y_XModel_addElement g X Z 24 [(0, .ref l0)] [] M := by
  unfold F_XModel_addElement_24 at h
  refine ew_aload_n 0 d_XModel_addElement_24 rfl rfl ?_
  refine ew_iconst (1) d_XModel_addElement_25 (by decide) ?_
  obtain ⟨kM1, h⟩ := kO_inv h
  obtain ⟨v2, M1, hM1, h⟩ := cI_inv h
  refine ew_callV 8 [.int (1 : Int32)] d_XModel_addElement_26 cv_XModel_111 (T_XModel_fail hM1) kM1 (Nat.le_trans (Nat.le_of_ble_eq_true rfl) hn) (Nat.le_trans (Nat.le_of_ble_eq_true rfl) hl) (Nat.le_of_ble_eq_true rfl) rfl rfl ?_
  obtain ⟨hz, hm⟩ := Prod.mk.inj (Option.some.inj h)
  exact ew_ireturn d_XModel_addElement_29 rfl hz.symm hm.symm
def F_XModel_addElement (n : Nat) (l0 : Nat) (l1 : Int32) (M : PM) : qO :=
  pF 8 M l0 0 (.int (0 : Int32)) (fun M1 =>
  gI 8 M1 l0 9 (fun v2 =>
  if v2 = (16 : Int32) then
    F_XModel_addElement_24 n l0 M1
  else
    gI 8 M1 l0 1 (fun v4 =>
    if v4 = (300 : Int32) then
      F_XModel_addElement_24 n l0 M1
    else
      kO 8 M1 l0 (
      cV (F_XModel_begin n l0 M1) (fun M6 =>
      gI 8 M6 l0 9 (fun v7 =>
      kO 8 M6 l0 (
      cI (F_XModel_add n l0 l1 v7 (-1 : Int32) (-1 : Int32) M6) (fun v9 M8 =>
      gI 8 M8 l0 1 (fun v10 =>
      pF 8 M8 l0 1 (.int (v10 + (1 : Int32))) (fun M11 =>
      gR 8 M11 l0 11 (fun v12 =>
      gI 8 M11 l0 9 (fun v13 =>
      wI M11 v12 v13 v9 (fun M14 =>
      gR 8 M14 l0 12 (fun v15 =>
      gI 8 M14 l0 9 (fun v16 =>
      wI M14 v15 v16 v9 (fun M17 =>
      gI 8 M17 l0 9 (fun v18 =>
      pF 8 M17 l0 9 (.int (v18 + (1 : Int32))) (fun M19 =>
      some (.inl (some (.int v9)), M19)))))))))))))))))))
set_option maxHeartbeats 4000000 in
set_option maxRecDepth 100000 in
theorem E_XModel_addElement {g : qG} {X : qX} {Z : qZ} (hn : 3 ≤ zn Z) (hl : 69 ≤ zl Z) {n : Nat} {l0 : Nat} {l1 : Int32} {M : PM} (h : F_XModel_addElement n l0 l1 M = some (zr Z, zf Z)) : EW Y_XModel_addElement g X Z 0 [(0, .ref l0), (1, .int l1)] [] M := by
  unfold F_XModel_addElement at h
  refine ew_aload_n 0 d_XModel_addElement_0 rfl rfl ?_
  refine ew_iconst (0) d_XModel_addElement_1 (by decide) ?_
  obtain ⟨M1, aM1, eM1, h⟩ := pF_inv h
  refine ew_pF 8 0 d_XModel_addElement_2 fl_XModel_87 aM1 eM1 (fun ad => ⟨rfl, rfl⟩) ?_
  refine ew_aload_n 0 d_XModel_addElement_5 rfl rfl ?_
  obtain ⟨v2, av2, bv2, h⟩ := gI_inv h
  refine ew_gI 8 9 d_XModel_addElement_6 fl_XModel_119 av2 bv2 ?_
  refine ew_bipush (16) d_XModel_addElement_9 (by decide +kernel) ?_
  refine ew_icmp_eq 24 d_XModel_addElement_11 (by decide) (fun c3 => ?_) (fun c3 => ?_)
  · rw [if_pos c3] at h
    exact ew_pick (L' := [(0, .ref l0)]) [0] rfl (E_XModel_addElement_24 hn hl h)
  · rw [if_neg c3] at h
    refine ew_aload_n 0 d_XModel_addElement_14 rfl rfl ?_
    obtain ⟨v4, av4, bv4, h⟩ := gI_inv h
    refine ew_gI 8 1 d_XModel_addElement_15 fl_XModel_7 av4 bv4 ?_
    refine ew_sipush (300) d_XModel_addElement_18 (by decide +kernel) ?_
    refine ew_icmp_ne 30 d_XModel_addElement_21 (by decide) (fun c5 => ?_) (fun c5 => ?_)
    · rw [if_neg c5] at h
      refine ew_aload_n 0 d_XModel_addElement_30 rfl rfl ?_
      obtain ⟨kM6, h⟩ := kO_inv h
      obtain ⟨M6, hM6, h⟩ := cV_inv h
      refine ew_callV 8 [] d_XModel_addElement_31 cv_XModel_84 (T_XModel_begin hM6) kM6 (Nat.le_trans (Nat.le_of_ble_eq_true rfl) hn) (Nat.le_trans (Nat.le_of_ble_eq_true rfl) hl) (Nat.le_of_ble_eq_true rfl) rfl rfl ?_
      refine ew_aload_n 0 d_XModel_addElement_34 rfl rfl ?_
      refine ew_iload_n 1 d_XModel_addElement_35 rfl rfl ?_
      refine ew_aload_n 0 d_XModel_addElement_36 rfl rfl ?_
      obtain ⟨v7, av7, bv7, h⟩ := gI_inv h
      refine ew_gI 8 9 d_XModel_addElement_37 fl_XModel_119 av7 bv7 ?_
      refine ew_iconst (-1) d_XModel_addElement_40 (by decide) ?_
      refine ew_iconst (-1) d_XModel_addElement_41 (by decide) ?_
      obtain ⟨kM8, h⟩ := kO_inv h
      obtain ⟨v9, M8, hM8, h⟩ := cI_inv h
      refine ew_callV 8 [.int l1, .int v7, .int (-1 : Int32), .int (-1 : Int32)] d_XModel_addElement_42 cv_XModel_102 (T_XModel_add hM8) kM8 (Nat.le_trans (Nat.le_of_ble_eq_true rfl) hn) (Nat.le_trans (Nat.le_of_ble_eq_true rfl) hl) (Nat.le_of_ble_eq_true rfl) rfl rfl ?_
      refine ew_istore_n (L' := [(0, .ref l0), (1, .int l1), (2, .int v9)]) 2 [1, 2, 0] d_XModel_addElement_45 rfl (by decide) rfl ?_
      refine ew_aload_n 0 d_XModel_addElement_46 rfl rfl ?_
      refine ew_dup d_XModel_addElement_47 rfl ?_
      obtain ⟨v10, av10, bv10, h⟩ := gI_inv h
      refine ew_gI 8 1 d_XModel_addElement_48 fl_XModel_7 av10 bv10 ?_
      refine ew_iconst (1) d_XModel_addElement_51 (by decide) ?_
      refine ew_iadd d_XModel_addElement_52 ?_
      obtain ⟨M11, aM11, eM11, h⟩ := pF_inv h
      refine ew_pF 8 1 d_XModel_addElement_53 fl_XModel_7 aM11 eM11 (fun ad => ⟨rfl, rfl⟩) ?_
      refine ew_aload_n 0 d_XModel_addElement_56 rfl rfl ?_
      obtain ⟨v12, av12, bv12, h⟩ := gR_inv h
      refine ew_gR 8 11 d_XModel_addElement_57 fl_XModel_32 av12 bv12 ?_
      refine ew_aload_n 0 d_XModel_addElement_60 rfl rfl ?_
      obtain ⟨v13, av13, bv13, h⟩ := gI_inv h
      refine ew_gI 8 9 d_XModel_addElement_61 fl_XModel_119 av13 bv13 ?_
      refine ew_iload_n 2 d_XModel_addElement_64 rfl rfl ?_
      obtain ⟨M14, aM14, bM14, cM14, eM14, h⟩ := wI_inv h
      refine ew_wI d_XModel_addElement_65 aM14 bM14 cM14 eM14 ?_
      refine ew_aload_n 0 d_XModel_addElement_66 rfl rfl ?_
      obtain ⟨v15, av15, bv15, h⟩ := gR_inv h
      refine ew_gR 8 12 d_XModel_addElement_67 fl_XModel_35 av15 bv15 ?_
      refine ew_aload_n 0 d_XModel_addElement_70 rfl rfl ?_
      obtain ⟨v16, av16, bv16, h⟩ := gI_inv h
      refine ew_gI 8 9 d_XModel_addElement_71 fl_XModel_119 av16 bv16 ?_
      refine ew_iload_n 2 d_XModel_addElement_74 rfl rfl ?_
      obtain ⟨M17, aM17, bM17, cM17, eM17, h⟩ := wI_inv h
      refine ew_wI d_XModel_addElement_75 aM17 bM17 cM17 eM17 ?_
      refine ew_aload_n 0 d_XModel_addElement_76 rfl rfl ?_
      refine ew_dup d_XModel_addElement_77 rfl ?_
      obtain ⟨v18, av18, bv18, h⟩ := gI_inv h
      refine ew_gI 8 9 d_XModel_addElement_78 fl_XModel_119 av18 bv18 ?_
      refine ew_iconst (1) d_XModel_addElement_81 (by decide) ?_
      refine ew_iadd d_XModel_addElement_82 ?_
      obtain ⟨M19, aM19, eM19, h⟩ := pF_inv h
      refine ew_pF 8 9 d_XModel_addElement_83 fl_XModel_119 aM19 eM19 (fun ad => ⟨rfl, rfl⟩) ?_
      refine ew_iload_n 2 d_XModel_addElement_86 rfl rfl ?_
      obtain ⟨hz, hm⟩ := Prod.mk.inj (Option.some.inj h)
      exact ew_ireturn d_XModel_addElement_87 rfl hz.symm hm.symm
    · rw [if_pos c5] at h
      exact ew_pick (L' := [(0, .ref l0)]) [0] rfl (E_XModel_addElement_24 hn hl h)
theorem T_XModel_addElement {n : Nat} {l0 : Nat} {l1 : Int32} {M Mf : PM} {res : qRs} (h : F_XModel_addElement n l0 l1 M = some (res, Mf)) : CT Y_XModel_addElement 3 69 [.ref l0, .int l1] M res Mf :=
  CT_of (by decide) (Nat.le_of_ble_eq_true rfl) (fun g X ad0 => E_XModel_addElement (g := g) (X := X) (Z := (ad0, M, res, Mf, 3, 69)) (Nat.le_refl _) (Nat.le_refl _) h)
theorem d_XModel_word_0 : decode Y_XModel_word.2.1 0 = .ok (.aload_n 0, 1) := by decide +kernel
theorem d_XModel_word_1 : decode Y_XModel_word.2.1 1 = .ok (.iconst 3, 1) := by decide +kernel
theorem d_XModel_word_2 : decode Y_XModel_word.2.1 2 = .ok (.invokevirtual 122, 3) := by decide +kernel
theorem d_XModel_word_5 : decode Y_XModel_word.2.1 5 = .ok (.ireturn, 1) := by decide +kernel
def F_XModel_word (n : Nat) (l0 : Nat) (M : PM) : qO :=
  kO 8 M l0 (
  cI (F_XModel_addElement n l0 (3 : Int32) M) (fun v2 M1 =>
  some (.inl (some (.int v2)), M1)))
set_option maxHeartbeats 4000000 in
set_option maxRecDepth 100000 in
theorem E_XModel_word {g : qG} {X : qX} {Z : qZ} (hn : 4 ≤ zn Z) (hl : 91 ≤ zl Z) {n : Nat} {l0 : Nat} {M : PM} (h : F_XModel_word n l0 M = some (zr Z, zf Z)) : EW Y_XModel_word g X Z 0 [(0, .ref l0)] [] M := by
  unfold F_XModel_word at h
  refine ew_aload_n 0 d_XModel_word_0 rfl rfl ?_
  refine ew_iconst (3) d_XModel_word_1 (by decide) ?_
  obtain ⟨kM1, h⟩ := kO_inv h
  obtain ⟨v2, M1, hM1, h⟩ := cI_inv h
  refine ew_callV 8 [.int (3 : Int32)] d_XModel_word_2 cv_XModel_122 (T_XModel_addElement hM1) kM1 (Nat.le_trans (Nat.le_of_ble_eq_true rfl) hn) (Nat.le_trans (Nat.le_of_ble_eq_true rfl) hl) (Nat.le_of_ble_eq_true rfl) rfl rfl ?_
  obtain ⟨hz, hm⟩ := Prod.mk.inj (Option.some.inj h)
  exact ew_ireturn d_XModel_word_5 rfl hz.symm hm.symm
theorem T_XModel_word {n : Nat} {l0 : Nat} {M Mf : PM} {res : qRs} (h : F_XModel_word n l0 M = some (res, Mf)) : CT Y_XModel_word 4 91 [.ref l0] M res Mf :=
  CT_of (by decide) (Nat.le_of_ble_eq_true rfl) (fun g X ad0 => E_XModel_word (g := g) (X := X) (Z := (ad0, M, res, Mf, 4, 91)) (Nat.le_refl _) (Nat.le_refl _) h)
theorem d_XModel_truth_0 : decode Y_XModel_truth.2.1 0 = .ok (.aload_n 0, 1) := by decide +kernel
theorem d_XModel_truth_1 : decode Y_XModel_truth.2.1 1 = .ok (.iconst 4, 1) := by decide +kernel
theorem d_XModel_truth_2 : decode Y_XModel_truth.2.1 2 = .ok (.invokevirtual 122, 3) := by decide +kernel
theorem d_XModel_truth_5 : decode Y_XModel_truth.2.1 5 = .ok (.ireturn, 1) := by decide +kernel
def F_XModel_truth (n : Nat) (l0 : Nat) (M : PM) : qO :=
  kO 8 M l0 (
  cI (F_XModel_addElement n l0 (4 : Int32) M) (fun v2 M1 =>
  some (.inl (some (.int v2)), M1)))
set_option maxHeartbeats 4000000 in
set_option maxRecDepth 100000 in
theorem E_XModel_truth {g : qG} {X : qX} {Z : qZ} (hn : 4 ≤ zn Z) (hl : 91 ≤ zl Z) {n : Nat} {l0 : Nat} {M : PM} (h : F_XModel_truth n l0 M = some (zr Z, zf Z)) : EW Y_XModel_truth g X Z 0 [(0, .ref l0)] [] M := by
  unfold F_XModel_truth at h
  refine ew_aload_n 0 d_XModel_truth_0 rfl rfl ?_
  refine ew_iconst (4) d_XModel_truth_1 (by decide) ?_
  obtain ⟨kM1, h⟩ := kO_inv h
  obtain ⟨v2, M1, hM1, h⟩ := cI_inv h
  refine ew_callV 8 [.int (4 : Int32)] d_XModel_truth_2 cv_XModel_122 (T_XModel_addElement hM1) kM1 (Nat.le_trans (Nat.le_of_ble_eq_true rfl) hn) (Nat.le_trans (Nat.le_of_ble_eq_true rfl) hl) (Nat.le_of_ble_eq_true rfl) rfl rfl ?_
  obtain ⟨hz, hm⟩ := Prod.mk.inj (Option.some.inj h)
  exact ew_ireturn d_XModel_truth_5 rfl hz.symm hm.symm
theorem T_XModel_truth {n : Nat} {l0 : Nat} {M Mf : PM} {res : qRs} (h : F_XModel_truth n l0 M = some (res, Mf)) : CT Y_XModel_truth 4 91 [.ref l0] M res Mf :=
  CT_of (by decide) (Nat.le_of_ble_eq_true rfl) (fun g X ad0 => E_XModel_truth (g := g) (X := X) (Z := (ad0, M, res, Mf, 4, 91)) (Nat.le_refl _) (Nat.le_refl _) h)
