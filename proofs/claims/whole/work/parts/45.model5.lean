theorem d_XModel_work_0 : decode Y_XModel_work.2.1 0 = .ok (.iconst 0, 1) := by decide +kernel
theorem d_XModel_work_1 : decode Y_XModel_work.2.1 1 = .ok (.istore_n 1, 1) := by decide +kernel
theorem d_XModel_work_2 : decode Y_XModel_work.2.1 2 = .ok (.iload_n 1, 1) := by decide +kernel
theorem d_XModel_work_3 : decode Y_XModel_work.2.1 3 = .ok (.aload_n 0, 1) := by decide +kernel
theorem d_XModel_work_4 : decode Y_XModel_work.2.1 4 = .ok (.getfield 81, 3) := by decide +kernel
theorem d_XModel_work_7 : decode Y_XModel_work.2.1 7 = .ok (.if_icmp .ge (241), 3) := by decide +kernel
theorem d_XModel_work_10 : decode Y_XModel_work.2.1 10 = .ok (.aload_n 0, 1) := by decide +kernel
theorem d_XModel_work_11 : decode Y_XModel_work.2.1 11 = .ok (.getfield 63, 3) := by decide +kernel
theorem d_XModel_work_14 : decode Y_XModel_work.2.1 14 = .ok (.iload_n 1, 1) := by decide +kernel
theorem d_XModel_work_15 : decode Y_XModel_work.2.1 15 = .ok (.baload, 1) := by decide +kernel
theorem d_XModel_work_16 : decode Y_XModel_work.2.1 16 = .ok (.ifCond .eq (226), 3) := by decide +kernel
theorem d_XModel_work_19 : decode Y_XModel_work.2.1 19 = .ok (.aload_n 0, 1) := by decide +kernel
theorem d_XModel_work_20 : decode Y_XModel_work.2.1 20 = .ok (.getfield 13, 3) := by decide +kernel
theorem d_XModel_work_23 : decode Y_XModel_work.2.1 23 = .ok (.iload_n 1, 1) := by decide +kernel
theorem d_XModel_work_24 : decode Y_XModel_work.2.1 24 = .ok (.iaload, 1) := by decide +kernel
theorem d_XModel_work_25 : decode Y_XModel_work.2.1 25 = .ok (.tableswitch (217) 0 9 #[55, 65, 217, 217, 217, 217, 75, 114, 136, 168], 55) := by decide +kernel
theorem d_XModel_work_80 : decode Y_XModel_work.2.1 80 = .ok (.aload_n 0, 1) := by decide +kernel
theorem d_XModel_work_81 : decode Y_XModel_work.2.1 81 = .ok (.getfield 66, 3) := by decide +kernel
theorem d_XModel_work_84 : decode Y_XModel_work.2.1 84 = .ok (.iload_n 1, 1) := by decide +kernel
theorem d_XModel_work_85 : decode Y_XModel_work.2.1 85 = .ok (.iconst 0, 1) := by decide +kernel
theorem d_XModel_work_86 : decode Y_XModel_work.2.1 86 = .ok (.iastore, 1) := by decide +kernel
theorem d_XModel_work_87 : decode Y_XModel_work.2.1 87 = .ok (.goto (155), 3) := by decide +kernel
theorem d_XModel_work_90 : decode Y_XModel_work.2.1 90 = .ok (.aload_n 0, 1) := by decide +kernel
theorem d_XModel_work_91 : decode Y_XModel_work.2.1 91 = .ok (.getfield 66, 3) := by decide +kernel
theorem d_XModel_work_94 : decode Y_XModel_work.2.1 94 = .ok (.iload_n 1, 1) := by decide +kernel
theorem d_XModel_work_95 : decode Y_XModel_work.2.1 95 = .ok (.iconst 1, 1) := by decide +kernel
theorem d_XModel_work_96 : decode Y_XModel_work.2.1 96 = .ok (.iastore, 1) := by decide +kernel
theorem d_XModel_work_97 : decode Y_XModel_work.2.1 97 = .ok (.goto (145), 3) := by decide +kernel
theorem d_XModel_work_100 : decode Y_XModel_work.2.1 100 = .ok (.aload_n 0, 1) := by decide +kernel
theorem d_XModel_work_101 : decode Y_XModel_work.2.1 101 = .ok (.getfield 66, 3) := by decide +kernel
theorem d_XModel_work_104 : decode Y_XModel_work.2.1 104 = .ok (.iload_n 1, 1) := by decide +kernel
theorem d_XModel_work_105 : decode Y_XModel_work.2.1 105 = .ok (.aload_n 0, 1) := by decide +kernel
theorem d_XModel_work_106 : decode Y_XModel_work.2.1 106 = .ok (.getfield 66, 3) := by decide +kernel
theorem d_XModel_work_109 : decode Y_XModel_work.2.1 109 = .ok (.aload_n 0, 1) := by decide +kernel
theorem d_XModel_work_110 : decode Y_XModel_work.2.1 110 = .ok (.getfield 17, 3) := by decide +kernel
theorem d_XModel_work_113 : decode Y_XModel_work.2.1 113 = .ok (.iload_n 1, 1) := by decide +kernel
theorem d_XModel_work_114 : decode Y_XModel_work.2.1 114 = .ok (.iaload, 1) := by decide +kernel
theorem d_XModel_work_115 : decode Y_XModel_work.2.1 115 = .ok (.iaload, 1) := by decide +kernel
theorem d_XModel_work_116 : decode Y_XModel_work.2.1 116 = .ok (.aload_n 0, 1) := by decide +kernel
theorem d_XModel_work_117 : decode Y_XModel_work.2.1 117 = .ok (.getfield 66, 3) := by decide +kernel
theorem d_XModel_work_120 : decode Y_XModel_work.2.1 120 = .ok (.aload_n 0, 1) := by decide +kernel
theorem d_XModel_work_121 : decode Y_XModel_work.2.1 121 = .ok (.getfield 20, 3) := by decide +kernel
theorem d_XModel_work_124 : decode Y_XModel_work.2.1 124 = .ok (.iload_n 1, 1) := by decide +kernel
theorem d_XModel_work_125 : decode Y_XModel_work.2.1 125 = .ok (.iaload, 1) := by decide +kernel
theorem d_XModel_work_126 : decode Y_XModel_work.2.1 126 = .ok (.iaload, 1) := by decide +kernel
theorem d_XModel_work_127 : decode Y_XModel_work.2.1 127 = .ok (.if_icmp .ne (7), 3) := by decide +kernel
theorem d_XModel_work_130 : decode Y_XModel_work.2.1 130 = .ok (.iconst 1, 1) := by decide +kernel
theorem d_XModel_work_131 : decode Y_XModel_work.2.1 131 = .ok (.goto (4), 3) := by decide +kernel
theorem d_XModel_work_134 : decode Y_XModel_work.2.1 134 = .ok (.iconst 0, 1) := by decide +kernel
theorem d_XModel_work_135 : decode Y_XModel_work.2.1 135 = .ok (.iastore, 1) := by decide +kernel
theorem d_XModel_work_136 : decode Y_XModel_work.2.1 136 = .ok (.goto (106), 3) := by decide +kernel
theorem d_XModel_work_139 : decode Y_XModel_work.2.1 139 = .ok (.aload_n 0, 1) := by decide +kernel
theorem d_XModel_work_140 : decode Y_XModel_work.2.1 140 = .ok (.getfield 66, 3) := by decide +kernel
theorem d_XModel_work_143 : decode Y_XModel_work.2.1 143 = .ok (.iload_n 1, 1) := by decide +kernel
theorem d_XModel_work_144 : decode Y_XModel_work.2.1 144 = .ok (.iconst 1, 1) := by decide +kernel
theorem d_XModel_work_145 : decode Y_XModel_work.2.1 145 = .ok (.aload_n 0, 1) := by decide +kernel
theorem d_XModel_work_146 : decode Y_XModel_work.2.1 146 = .ok (.getfield 66, 3) := by decide +kernel
theorem d_XModel_work_149 : decode Y_XModel_work.2.1 149 = .ok (.aload_n 0, 1) := by decide +kernel
theorem d_XModel_work_150 : decode Y_XModel_work.2.1 150 = .ok (.getfield 17, 3) := by decide +kernel
theorem d_XModel_work_153 : decode Y_XModel_work.2.1 153 = .ok (.iload_n 1, 1) := by decide +kernel
theorem d_XModel_work_154 : decode Y_XModel_work.2.1 154 = .ok (.iaload, 1) := by decide +kernel
theorem d_XModel_work_155 : decode Y_XModel_work.2.1 155 = .ok (.iaload, 1) := by decide +kernel
theorem d_XModel_work_156 : decode Y_XModel_work.2.1 156 = .ok (.isub, 1) := by decide +kernel
theorem d_XModel_work_157 : decode Y_XModel_work.2.1 157 = .ok (.iastore, 1) := by decide +kernel
theorem d_XModel_work_158 : decode Y_XModel_work.2.1 158 = .ok (.goto (84), 3) := by decide +kernel
theorem d_XModel_work_161 : decode Y_XModel_work.2.1 161 = .ok (.aload_n 0, 1) := by decide +kernel
theorem d_XModel_work_162 : decode Y_XModel_work.2.1 162 = .ok (.getfield 66, 3) := by decide +kernel
theorem d_XModel_work_165 : decode Y_XModel_work.2.1 165 = .ok (.iload_n 1, 1) := by decide +kernel
theorem d_XModel_work_166 : decode Y_XModel_work.2.1 166 = .ok (.aload_n 0, 1) := by decide +kernel
theorem d_XModel_work_167 : decode Y_XModel_work.2.1 167 = .ok (.getfield 66, 3) := by decide +kernel
theorem d_XModel_work_170 : decode Y_XModel_work.2.1 170 = .ok (.aload_n 0, 1) := by decide +kernel
theorem d_XModel_work_171 : decode Y_XModel_work.2.1 171 = .ok (.getfield 17, 3) := by decide +kernel
theorem d_XModel_work_174 : decode Y_XModel_work.2.1 174 = .ok (.iload_n 1, 1) := by decide +kernel
theorem d_XModel_work_175 : decode Y_XModel_work.2.1 175 = .ok (.iaload, 1) := by decide +kernel
theorem d_XModel_work_176 : decode Y_XModel_work.2.1 176 = .ok (.iaload, 1) := by decide +kernel
theorem d_XModel_work_177 : decode Y_XModel_work.2.1 177 = .ok (.aload_n 0, 1) := by decide +kernel
theorem d_XModel_work_178 : decode Y_XModel_work.2.1 178 = .ok (.getfield 66, 3) := by decide +kernel
theorem d_XModel_work_181 : decode Y_XModel_work.2.1 181 = .ok (.aload_n 0, 1) := by decide +kernel
theorem d_XModel_work_182 : decode Y_XModel_work.2.1 182 = .ok (.getfield 20, 3) := by decide +kernel
theorem d_XModel_work_185 : decode Y_XModel_work.2.1 185 = .ok (.iload_n 1, 1) := by decide +kernel
theorem d_XModel_work_186 : decode Y_XModel_work.2.1 186 = .ok (.iaload, 1) := by decide +kernel
theorem d_XModel_work_187 : decode Y_XModel_work.2.1 187 = .ok (.iaload, 1) := by decide +kernel
theorem d_XModel_work_188 : decode Y_XModel_work.2.1 188 = .ok (.iand, 1) := by decide +kernel
theorem d_XModel_work_189 : decode Y_XModel_work.2.1 189 = .ok (.iastore, 1) := by decide +kernel
theorem d_XModel_work_190 : decode Y_XModel_work.2.1 190 = .ok (.goto (52), 3) := by decide +kernel
theorem d_XModel_work_193 : decode Y_XModel_work.2.1 193 = .ok (.aload_n 0, 1) := by decide +kernel
theorem d_XModel_work_194 : decode Y_XModel_work.2.1 194 = .ok (.getfield 66, 3) := by decide +kernel
theorem d_XModel_work_197 : decode Y_XModel_work.2.1 197 = .ok (.iload_n 1, 1) := by decide +kernel
theorem d_XModel_work_198 : decode Y_XModel_work.2.1 198 = .ok (.aload_n 0, 1) := by decide +kernel
theorem d_XModel_work_199 : decode Y_XModel_work.2.1 199 = .ok (.getfield 66, 3) := by decide +kernel
theorem d_XModel_work_202 : decode Y_XModel_work.2.1 202 = .ok (.aload_n 0, 1) := by decide +kernel
theorem d_XModel_work_203 : decode Y_XModel_work.2.1 203 = .ok (.getfield 17, 3) := by decide +kernel
theorem d_XModel_work_206 : decode Y_XModel_work.2.1 206 = .ok (.iload_n 1, 1) := by decide +kernel
theorem d_XModel_work_207 : decode Y_XModel_work.2.1 207 = .ok (.iaload, 1) := by decide +kernel
theorem d_XModel_work_208 : decode Y_XModel_work.2.1 208 = .ok (.iaload, 1) := by decide +kernel
theorem d_XModel_work_209 : decode Y_XModel_work.2.1 209 = .ok (.iconst 1, 1) := by decide +kernel
theorem d_XModel_work_210 : decode Y_XModel_work.2.1 210 = .ok (.if_icmp .ne (17), 3) := by decide +kernel
theorem d_XModel_work_213 : decode Y_XModel_work.2.1 213 = .ok (.aload_n 0, 1) := by decide +kernel
theorem d_XModel_work_214 : decode Y_XModel_work.2.1 214 = .ok (.getfield 66, 3) := by decide +kernel
theorem d_XModel_work_217 : decode Y_XModel_work.2.1 217 = .ok (.aload_n 0, 1) := by decide +kernel
theorem d_XModel_work_218 : decode Y_XModel_work.2.1 218 = .ok (.getfield 20, 3) := by decide +kernel
theorem d_XModel_work_221 : decode Y_XModel_work.2.1 221 = .ok (.iload_n 1, 1) := by decide +kernel
theorem d_XModel_work_222 : decode Y_XModel_work.2.1 222 = .ok (.iaload, 1) := by decide +kernel
theorem d_XModel_work_223 : decode Y_XModel_work.2.1 223 = .ok (.iaload, 1) := by decide +kernel
theorem d_XModel_work_224 : decode Y_XModel_work.2.1 224 = .ok (.goto (14), 3) := by decide +kernel
theorem d_XModel_work_227 : decode Y_XModel_work.2.1 227 = .ok (.aload_n 0, 1) := by decide +kernel
theorem d_XModel_work_228 : decode Y_XModel_work.2.1 228 = .ok (.getfield 66, 3) := by decide +kernel
theorem d_XModel_work_231 : decode Y_XModel_work.2.1 231 = .ok (.aload_n 0, 1) := by decide +kernel
theorem d_XModel_work_232 : decode Y_XModel_work.2.1 232 = .ok (.getfield 23, 3) := by decide +kernel
theorem d_XModel_work_235 : decode Y_XModel_work.2.1 235 = .ok (.iload_n 1, 1) := by decide +kernel
theorem d_XModel_work_236 : decode Y_XModel_work.2.1 236 = .ok (.iaload, 1) := by decide +kernel
theorem d_XModel_work_237 : decode Y_XModel_work.2.1 237 = .ok (.iaload, 1) := by decide +kernel
theorem d_XModel_work_238 : decode Y_XModel_work.2.1 238 = .ok (.iastore, 1) := by decide +kernel
theorem d_XModel_work_239 : decode Y_XModel_work.2.1 239 = .ok (.goto (3), 3) := by decide +kernel
theorem d_XModel_work_242 : decode Y_XModel_work.2.1 242 = .ok (.iinc 1 (1), 3) := by decide +kernel
theorem d_XModel_work_245 : decode Y_XModel_work.2.1 245 = .ok (.goto (-243), 3) := by decide +kernel
theorem d_XModel_work_248 : decode Y_XModel_work.2.1 248 = .ok (.return_, 1) := by decide +kernel
def F_XModel_work_242 (n : Nat) (rec2 : Nat → Int32 → PM → qO) (l0 : Nat) (l1 : Int32) (M : PM) : qO :=
  bI (l1 + (1 : Int32)) (fun v1 =>
  rec2 l0 v1 M)
set_option maxHeartbeats 4000000 in
set_option maxRecDepth 100000 in
theorem E_XModel_work_242 {g : qG} {X : qX} {Z : qZ} (hn : 0 ≤ zn Z) (hl : 0 ≤ zl Z) {n : Nat} {rec2 : Nat → Int32 → PM → qO} (hrec2 : ∀ (l0 : Nat) (l1 : Int32) (M : PM), rec2 l0 l1 M = some (zr Z, zf Z) → EW Y_XModel_work g X Z 2 [(0, .ref l0), (1, .int l1)] [] M) {l0 : Nat} {l1 : Int32} {M : PM} (h : F_XModel_work_242 n rec2 l0 l1 M = some (zr Z, zf Z)) : EW Y_XModel_work g X Z 242 [(0, .ref l0), (1, .int l1)] [] M := by
  unfold F_XModel_work_242 at h
  obtain ⟨v1, ev1, h⟩ := bI_inv h
  refine ew_iinc (L' := [(0, .ref l0), (1, .int v1)]) v1 [1, 0] d_XModel_work_242 rfl (by rw [ev1]; rfl) (by decide) rfl ?_
  refine ew_goto 2 d_XModel_work_245 (by decide) ?_
  exact hrec2 l0 v1 M h
def F_XModel_work_238 (n : Nat) (rec2 : Nat → Int32 → PM → qO) (l0 : Nat) (l1 : Int32) (s0 : Nat) (s1 : Int32) (s2 : Int32) (M : PM) : qO :=
  wI M s0 s1 s2 (fun M1 =>
  F_XModel_work_242 n rec2 l0 l1 M1)
set_option maxHeartbeats 4000000 in
set_option maxRecDepth 100000 in
theorem E_XModel_work_238 {g : qG} {X : qX} {Z : qZ} (hn : 0 ≤ zn Z) (hl : 0 ≤ zl Z) {n : Nat} {rec2 : Nat → Int32 → PM → qO} (hrec2 : ∀ (l0 : Nat) (l1 : Int32) (M : PM), rec2 l0 l1 M = some (zr Z, zf Z) → EW Y_XModel_work g X Z 2 [(0, .ref l0), (1, .int l1)] [] M) {l0 : Nat} {l1 : Int32} {s0 : Nat} {s1 : Int32} {s2 : Int32} {M : PM} (h : F_XModel_work_238 n rec2 l0 l1 s0 s1 s2 M = some (zr Z, zf Z)) : EW Y_XModel_work g X Z 238 [(0, .ref l0), (1, .int l1)] [.int s2, .int s1, .ref s0] M := by
  unfold F_XModel_work_238 at h
  obtain ⟨M1, aM1, bM1, cM1, eM1, h⟩ := wI_inv h
  refine ew_wI d_XModel_work_238 aM1 bM1 cM1 eM1 ?_
  refine ew_goto 242 d_XModel_work_239 (by decide) ?_
  exact E_XModel_work_242 hn hl hrec2 h
def F_XModel_work_135 (n : Nat) (rec2 : Nat → Int32 → PM → qO) (l0 : Nat) (l1 : Int32) (s0 : Nat) (s1 : Int32) (s2 : Int32) (M : PM) : qO :=
  wI M s0 s1 s2 (fun M1 =>
  F_XModel_work_242 n rec2 l0 l1 M1)
set_option maxHeartbeats 4000000 in
set_option maxRecDepth 100000 in
theorem E_XModel_work_135 {g : qG} {X : qX} {Z : qZ} (hn : 0 ≤ zn Z) (hl : 0 ≤ zl Z) {n : Nat} {rec2 : Nat → Int32 → PM → qO} (hrec2 : ∀ (l0 : Nat) (l1 : Int32) (M : PM), rec2 l0 l1 M = some (zr Z, zf Z) → EW Y_XModel_work g X Z 2 [(0, .ref l0), (1, .int l1)] [] M) {l0 : Nat} {l1 : Int32} {s0 : Nat} {s1 : Int32} {s2 : Int32} {M : PM} (h : F_XModel_work_135 n rec2 l0 l1 s0 s1 s2 M = some (zr Z, zf Z)) : EW Y_XModel_work g X Z 135 [(0, .ref l0), (1, .int l1)] [.int s2, .int s1, .ref s0] M := by
  unfold F_XModel_work_135 at h
  obtain ⟨M1, aM1, bM1, cM1, eM1, h⟩ := wI_inv h
  refine ew_wI d_XModel_work_135 aM1 bM1 cM1 eM1 ?_
  refine ew_goto 242 d_XModel_work_136 (by decide) ?_
  exact E_XModel_work_242 hn hl hrec2 h
def F_XModel_work_2 (n : Nat) : Nat → Nat → Int32 → PM → qO
  | 0, _, _, _ => none
  | f + 1, l0, l1, M =>
    gI 0 M l0 2 (fun v1 =>
    if v1 ≤ l1 then
      some (.inl none, M)
    else
      gR 0 M l0 21 (fun v3 =>
      lZ M v3 l1 (fun v4 =>
      if v4 = (0 : Int32) then
        F_XModel_work_242 n (F_XModel_work_2 n f) l0 l1 M
      else
        gR 0 M l0 3 (fun v6 =>
        lI M v6 l1 (fun v7 =>
        if v7 = (0 : Int32) then
          gR 0 M l0 22 (fun v9 =>
          wI M v9 l1 (0 : Int32) (fun M10 =>
          F_XModel_work_242 n (F_XModel_work_2 n f) l0 l1 M10))
        else
        if v7 = (1 : Int32) then
          gR 0 M l0 22 (fun v12 =>
          wI M v12 l1 (1 : Int32) (fun M13 =>
          F_XModel_work_242 n (F_XModel_work_2 n f) l0 l1 M13))
        else
        if v7 = (2 : Int32) then
          F_XModel_work_242 n (F_XModel_work_2 n f) l0 l1 M
        else
        if v7 = (3 : Int32) then
          F_XModel_work_242 n (F_XModel_work_2 n f) l0 l1 M
        else
        if v7 = (4 : Int32) then
          F_XModel_work_242 n (F_XModel_work_2 n f) l0 l1 M
        else
        if v7 = (5 : Int32) then
          F_XModel_work_242 n (F_XModel_work_2 n f) l0 l1 M
        else
        if v7 = (6 : Int32) then
          gR 0 M l0 22 (fun v19 =>
          gR 0 M l0 22 (fun v20 =>
          gR 0 M l0 4 (fun v21 =>
          lI M v21 l1 (fun v22 =>
          lI M v20 v22 (fun v23 =>
          gR 0 M l0 22 (fun v24 =>
          gR 0 M l0 5 (fun v25 =>
          lI M v25 l1 (fun v26 =>
          lI M v24 v26 (fun v27 =>
          if v23 = v27 then
            F_XModel_work_135 n (F_XModel_work_2 n f) l0 l1 v19 l1 (1 : Int32) M
          else
            F_XModel_work_135 n (F_XModel_work_2 n f) l0 l1 v19 l1 (0 : Int32) M)))))))))
        else
        if v7 = (7 : Int32) then
          gR 0 M l0 22 (fun v30 =>
          gR 0 M l0 22 (fun v31 =>
          gR 0 M l0 4 (fun v32 =>
          lI M v32 l1 (fun v33 =>
          lI M v31 v33 (fun v34 =>
          wI M v30 l1 ((1 : Int32) - v34) (fun M35 =>
          F_XModel_work_242 n (F_XModel_work_2 n f) l0 l1 M35))))))
        else
        if v7 = (8 : Int32) then
          gR 0 M l0 22 (fun v37 =>
          gR 0 M l0 22 (fun v38 =>
          gR 0 M l0 4 (fun v39 =>
          lI M v39 l1 (fun v40 =>
          lI M v38 v40 (fun v41 =>
          gR 0 M l0 22 (fun v42 =>
          gR 0 M l0 5 (fun v43 =>
          lI M v43 l1 (fun v44 =>
          lI M v42 v44 (fun v45 =>
          wI M v37 l1 (v41 &&& v45) (fun M46 =>
          F_XModel_work_242 n (F_XModel_work_2 n f) l0 l1 M46))))))))))
        else
        if v7 = (9 : Int32) then
          gR 0 M l0 22 (fun v48 =>
          gR 0 M l0 22 (fun v49 =>
          gR 0 M l0 4 (fun v50 =>
          lI M v50 l1 (fun v51 =>
          lI M v49 v51 (fun v52 =>
          if v52 = (1 : Int32) then
            gR 0 M l0 22 (fun v58 =>
            gR 0 M l0 5 (fun v59 =>
            lI M v59 l1 (fun v60 =>
            lI M v58 v60 (fun v61 =>
            F_XModel_work_238 n (F_XModel_work_2 n f) l0 l1 v48 l1 v61 M))))
          else
            gR 0 M l0 22 (fun v54 =>
            gR 0 M l0 6 (fun v55 =>
            lI M v55 l1 (fun v56 =>
            lI M v54 v56 (fun v57 =>
            F_XModel_work_238 n (F_XModel_work_2 n f) l0 l1 v48 l1 v57 M)))))))))
        else
          F_XModel_work_242 n (F_XModel_work_2 n f) l0 l1 M)))))
set_option maxHeartbeats 4000000 in
set_option maxRecDepth 100000 in
theorem E_XModel_work_2 {g : qG} {X : qX} {Z : qZ} (hn : 0 ≤ zn Z) (hl : 0 ≤ zl Z) {n : Nat} : ∀ (f : Nat) (l0 : Nat) (l1 : Int32) (M : PM), F_XModel_work_2 n f l0 l1 M = some (zr Z, zf Z) → EW Y_XModel_work g X Z 2 [(0, .ref l0), (1, .int l1)] [] M := by
  intro f
  induction f with
  | zero => intro l0 l1 M h; rw [F_XModel_work_2] at h; cases h
  | succ f ih =>
    intro l0 l1 M h
    rw [F_XModel_work_2] at h
    refine ew_iload_n 1 d_XModel_work_2 rfl rfl ?_
    refine ew_aload_n 0 d_XModel_work_3 rfl rfl ?_
    obtain ⟨v1, av1, bv1, h⟩ := gI_inv h
    refine ew_gI 0 2 d_XModel_work_4 fl_XModel_81 av1 bv1 ?_
    refine ew_icmp_ge 248 d_XModel_work_7 (by decide) (fun c2 => ?_) (fun c2 => ?_)
    · rw [if_pos c2] at h
      obtain ⟨hz, hm⟩ := Prod.mk.inj (Option.some.inj h)
      exact ew_return d_XModel_work_248 rfl hz.symm hm.symm
    · rw [if_neg c2] at h
      refine ew_aload_n 0 d_XModel_work_10 rfl rfl ?_
      obtain ⟨v3, av3, bv3, h⟩ := gR_inv h
      refine ew_gR 0 21 d_XModel_work_11 fl_XModel_63 av3 bv3 ?_
      refine ew_iload_n 1 d_XModel_work_14 rfl rfl ?_
      obtain ⟨v4, av4, bv4, cv4, ev4, h⟩ := lZ_inv h
      refine ew_lZ d_XModel_work_15 av4 bv4 cv4 ev4 ?_
      refine ew_if_eq 242 d_XModel_work_16 (by decide) (fun c5 => ?_) (fun c5 => ?_)
      · rw [if_pos c5] at h
        exact E_XModel_work_242 hn hl ih h
      · rw [if_neg c5] at h
        refine ew_aload_n 0 d_XModel_work_19 rfl rfl ?_
        obtain ⟨v6, av6, bv6, h⟩ := gR_inv h
        refine ew_gR 0 3 d_XModel_work_20 fl_XModel_13 av6 bv6 ?_
        refine ew_iload_n 1 d_XModel_work_23 rfl rfl ?_
        obtain ⟨v7, av7, bv7, cv7, ev7, h⟩ := lI_inv h
        refine ew_lI d_XModel_work_24 av7 bv7 cv7 ev7 ?_
        refine (Classical.em (v7 = (0 : Int32))).elim (fun c8 => ?_) (fun c8 => ?_)
        · rw [if_pos c8] at h
          refine ew_swIn 80 d_XModel_work_25 (by rw [c8]; decide) (by rw [c8]; decide) (by rw [c8]; rfl) (by decide) ?_
          refine ew_aload_n 0 d_XModel_work_80 rfl rfl ?_
          obtain ⟨v9, av9, bv9, h⟩ := gR_inv h
          refine ew_gR 0 22 d_XModel_work_81 fl_XModel_66 av9 bv9 ?_
          refine ew_iload_n 1 d_XModel_work_84 rfl rfl ?_
          refine ew_iconst (0) d_XModel_work_85 (by decide) ?_
          obtain ⟨M10, aM10, bM10, cM10, eM10, h⟩ := wI_inv h
          refine ew_wI d_XModel_work_86 aM10 bM10 cM10 eM10 ?_
          refine ew_goto 242 d_XModel_work_87 (by decide) ?_
          exact E_XModel_work_242 hn hl ih h
        rw [if_neg c8] at h
        refine (Classical.em (v7 = (1 : Int32))).elim (fun c11 => ?_) (fun c11 => ?_)
        · rw [if_pos c11] at h
          refine ew_swIn 90 d_XModel_work_25 (by rw [c11]; decide) (by rw [c11]; decide) (by rw [c11]; rfl) (by decide) ?_
          refine ew_aload_n 0 d_XModel_work_90 rfl rfl ?_
          obtain ⟨v12, av12, bv12, h⟩ := gR_inv h
          refine ew_gR 0 22 d_XModel_work_91 fl_XModel_66 av12 bv12 ?_
          refine ew_iload_n 1 d_XModel_work_94 rfl rfl ?_
          refine ew_iconst (1) d_XModel_work_95 (by decide) ?_
          obtain ⟨M13, aM13, bM13, cM13, eM13, h⟩ := wI_inv h
          refine ew_wI d_XModel_work_96 aM13 bM13 cM13 eM13 ?_
          refine ew_goto 242 d_XModel_work_97 (by decide) ?_
          exact E_XModel_work_242 hn hl ih h
        rw [if_neg c11] at h
        refine (Classical.em (v7 = (2 : Int32))).elim (fun c14 => ?_) (fun c14 => ?_)
        · rw [if_pos c14] at h
          refine ew_swIn 242 d_XModel_work_25 (by rw [c14]; decide) (by rw [c14]; decide) (by rw [c14]; rfl) (by decide) ?_
          exact E_XModel_work_242 hn hl ih h
        rw [if_neg c14] at h
        refine (Classical.em (v7 = (3 : Int32))).elim (fun c15 => ?_) (fun c15 => ?_)
        · rw [if_pos c15] at h
          refine ew_swIn 242 d_XModel_work_25 (by rw [c15]; decide) (by rw [c15]; decide) (by rw [c15]; rfl) (by decide) ?_
          exact E_XModel_work_242 hn hl ih h
        rw [if_neg c15] at h
        refine (Classical.em (v7 = (4 : Int32))).elim (fun c16 => ?_) (fun c16 => ?_)
        · rw [if_pos c16] at h
          refine ew_swIn 242 d_XModel_work_25 (by rw [c16]; decide) (by rw [c16]; decide) (by rw [c16]; rfl) (by decide) ?_
          exact E_XModel_work_242 hn hl ih h
        rw [if_neg c16] at h
        refine (Classical.em (v7 = (5 : Int32))).elim (fun c17 => ?_) (fun c17 => ?_)
        · rw [if_pos c17] at h
          refine ew_swIn 242 d_XModel_work_25 (by rw [c17]; decide) (by rw [c17]; decide) (by rw [c17]; rfl) (by decide) ?_
          exact E_XModel_work_242 hn hl ih h
        rw [if_neg c17] at h
        refine (Classical.em (v7 = (6 : Int32))).elim (fun c18 => ?_) (fun c18 => ?_)
        · rw [if_pos c18] at h
          refine ew_swIn 100 d_XModel_work_25 (by rw [c18]; decide) (by rw [c18]; decide) (by rw [c18]; rfl) (by decide) ?_
          refine ew_aload_n 0 d_XModel_work_100 rfl rfl ?_
          obtain ⟨v19, av19, bv19, h⟩ := gR_inv h
          refine ew_gR 0 22 d_XModel_work_101 fl_XModel_66 av19 bv19 ?_
          refine ew_iload_n 1 d_XModel_work_104 rfl rfl ?_
          refine ew_aload_n 0 d_XModel_work_105 rfl rfl ?_
          obtain ⟨v20, av20, bv20, h⟩ := gR_inv h
          refine ew_gR 0 22 d_XModel_work_106 fl_XModel_66 av20 bv20 ?_
          refine ew_aload_n 0 d_XModel_work_109 rfl rfl ?_
          obtain ⟨v21, av21, bv21, h⟩ := gR_inv h
          refine ew_gR 0 4 d_XModel_work_110 fl_XModel_17 av21 bv21 ?_
          refine ew_iload_n 1 d_XModel_work_113 rfl rfl ?_
          obtain ⟨v22, av22, bv22, cv22, ev22, h⟩ := lI_inv h
          refine ew_lI d_XModel_work_114 av22 bv22 cv22 ev22 ?_
          obtain ⟨v23, av23, bv23, cv23, ev23, h⟩ := lI_inv h
          refine ew_lI d_XModel_work_115 av23 bv23 cv23 ev23 ?_
          refine ew_aload_n 0 d_XModel_work_116 rfl rfl ?_
          obtain ⟨v24, av24, bv24, h⟩ := gR_inv h
          refine ew_gR 0 22 d_XModel_work_117 fl_XModel_66 av24 bv24 ?_
          refine ew_aload_n 0 d_XModel_work_120 rfl rfl ?_
          obtain ⟨v25, av25, bv25, h⟩ := gR_inv h
          refine ew_gR 0 5 d_XModel_work_121 fl_XModel_20 av25 bv25 ?_
          refine ew_iload_n 1 d_XModel_work_124 rfl rfl ?_
          obtain ⟨v26, av26, bv26, cv26, ev26, h⟩ := lI_inv h
          refine ew_lI d_XModel_work_125 av26 bv26 cv26 ev26 ?_
          obtain ⟨v27, av27, bv27, cv27, ev27, h⟩ := lI_inv h
          refine ew_lI d_XModel_work_126 av27 bv27 cv27 ev27 ?_
          refine ew_icmp_ne 134 d_XModel_work_127 (by decide) (fun c28 => ?_) (fun c28 => ?_)
          · rw [if_neg c28] at h
            refine ew_iconst (0) d_XModel_work_134 (by decide) ?_
            exact E_XModel_work_135 hn hl ih h
          · rw [if_pos c28] at h
            refine ew_iconst (1) d_XModel_work_130 (by decide) ?_
            refine ew_goto 135 d_XModel_work_131 (by decide) ?_
            exact E_XModel_work_135 hn hl ih h
        rw [if_neg c18] at h
        refine (Classical.em (v7 = (7 : Int32))).elim (fun c29 => ?_) (fun c29 => ?_)
        · rw [if_pos c29] at h
          refine ew_swIn 139 d_XModel_work_25 (by rw [c29]; decide) (by rw [c29]; decide) (by rw [c29]; rfl) (by decide) ?_
          refine ew_aload_n 0 d_XModel_work_139 rfl rfl ?_
          obtain ⟨v30, av30, bv30, h⟩ := gR_inv h
          refine ew_gR 0 22 d_XModel_work_140 fl_XModel_66 av30 bv30 ?_
          refine ew_iload_n 1 d_XModel_work_143 rfl rfl ?_
          refine ew_iconst (1) d_XModel_work_144 (by decide) ?_
          refine ew_aload_n 0 d_XModel_work_145 rfl rfl ?_
          obtain ⟨v31, av31, bv31, h⟩ := gR_inv h
          refine ew_gR 0 22 d_XModel_work_146 fl_XModel_66 av31 bv31 ?_
          refine ew_aload_n 0 d_XModel_work_149 rfl rfl ?_
          obtain ⟨v32, av32, bv32, h⟩ := gR_inv h
          refine ew_gR 0 4 d_XModel_work_150 fl_XModel_17 av32 bv32 ?_
          refine ew_iload_n 1 d_XModel_work_153 rfl rfl ?_
          obtain ⟨v33, av33, bv33, cv33, ev33, h⟩ := lI_inv h
          refine ew_lI d_XModel_work_154 av33 bv33 cv33 ev33 ?_
          obtain ⟨v34, av34, bv34, cv34, ev34, h⟩ := lI_inv h
          refine ew_lI d_XModel_work_155 av34 bv34 cv34 ev34 ?_
          refine ew_isub d_XModel_work_156 ?_
          obtain ⟨M35, aM35, bM35, cM35, eM35, h⟩ := wI_inv h
          refine ew_wI d_XModel_work_157 aM35 bM35 cM35 eM35 ?_
          refine ew_goto 242 d_XModel_work_158 (by decide) ?_
          exact E_XModel_work_242 hn hl ih h
        rw [if_neg c29] at h
        refine (Classical.em (v7 = (8 : Int32))).elim (fun c36 => ?_) (fun c36 => ?_)
        · rw [if_pos c36] at h
          refine ew_swIn 161 d_XModel_work_25 (by rw [c36]; decide) (by rw [c36]; decide) (by rw [c36]; rfl) (by decide) ?_
          refine ew_aload_n 0 d_XModel_work_161 rfl rfl ?_
          obtain ⟨v37, av37, bv37, h⟩ := gR_inv h
          refine ew_gR 0 22 d_XModel_work_162 fl_XModel_66 av37 bv37 ?_
          refine ew_iload_n 1 d_XModel_work_165 rfl rfl ?_
          refine ew_aload_n 0 d_XModel_work_166 rfl rfl ?_
          obtain ⟨v38, av38, bv38, h⟩ := gR_inv h
          refine ew_gR 0 22 d_XModel_work_167 fl_XModel_66 av38 bv38 ?_
          refine ew_aload_n 0 d_XModel_work_170 rfl rfl ?_
          obtain ⟨v39, av39, bv39, h⟩ := gR_inv h
          refine ew_gR 0 4 d_XModel_work_171 fl_XModel_17 av39 bv39 ?_
          refine ew_iload_n 1 d_XModel_work_174 rfl rfl ?_
          obtain ⟨v40, av40, bv40, cv40, ev40, h⟩ := lI_inv h
          refine ew_lI d_XModel_work_175 av40 bv40 cv40 ev40 ?_
          obtain ⟨v41, av41, bv41, cv41, ev41, h⟩ := lI_inv h
          refine ew_lI d_XModel_work_176 av41 bv41 cv41 ev41 ?_
          refine ew_aload_n 0 d_XModel_work_177 rfl rfl ?_
          obtain ⟨v42, av42, bv42, h⟩ := gR_inv h
          refine ew_gR 0 22 d_XModel_work_178 fl_XModel_66 av42 bv42 ?_
          refine ew_aload_n 0 d_XModel_work_181 rfl rfl ?_
          obtain ⟨v43, av43, bv43, h⟩ := gR_inv h
          refine ew_gR 0 5 d_XModel_work_182 fl_XModel_20 av43 bv43 ?_
          refine ew_iload_n 1 d_XModel_work_185 rfl rfl ?_
          obtain ⟨v44, av44, bv44, cv44, ev44, h⟩ := lI_inv h
          refine ew_lI d_XModel_work_186 av44 bv44 cv44 ev44 ?_
          obtain ⟨v45, av45, bv45, cv45, ev45, h⟩ := lI_inv h
          refine ew_lI d_XModel_work_187 av45 bv45 cv45 ev45 ?_
          refine ew_iand d_XModel_work_188 ?_
          obtain ⟨M46, aM46, bM46, cM46, eM46, h⟩ := wI_inv h
          refine ew_wI d_XModel_work_189 aM46 bM46 cM46 eM46 ?_
          refine ew_goto 242 d_XModel_work_190 (by decide) ?_
          exact E_XModel_work_242 hn hl ih h
        rw [if_neg c36] at h
        refine (Classical.em (v7 = (9 : Int32))).elim (fun c47 => ?_) (fun c47 => ?_)
        · rw [if_pos c47] at h
          refine ew_swIn 193 d_XModel_work_25 (by rw [c47]; decide) (by rw [c47]; decide) (by rw [c47]; rfl) (by decide) ?_
          refine ew_aload_n 0 d_XModel_work_193 rfl rfl ?_
          obtain ⟨v48, av48, bv48, h⟩ := gR_inv h
          refine ew_gR 0 22 d_XModel_work_194 fl_XModel_66 av48 bv48 ?_
          refine ew_iload_n 1 d_XModel_work_197 rfl rfl ?_
          refine ew_aload_n 0 d_XModel_work_198 rfl rfl ?_
          obtain ⟨v49, av49, bv49, h⟩ := gR_inv h
          refine ew_gR 0 22 d_XModel_work_199 fl_XModel_66 av49 bv49 ?_
          refine ew_aload_n 0 d_XModel_work_202 rfl rfl ?_
          obtain ⟨v50, av50, bv50, h⟩ := gR_inv h
          refine ew_gR 0 4 d_XModel_work_203 fl_XModel_17 av50 bv50 ?_
          refine ew_iload_n 1 d_XModel_work_206 rfl rfl ?_
          obtain ⟨v51, av51, bv51, cv51, ev51, h⟩ := lI_inv h
          refine ew_lI d_XModel_work_207 av51 bv51 cv51 ev51 ?_
          obtain ⟨v52, av52, bv52, cv52, ev52, h⟩ := lI_inv h
          refine ew_lI d_XModel_work_208 av52 bv52 cv52 ev52 ?_
          refine ew_iconst (1) d_XModel_work_209 (by decide) ?_
          refine ew_icmp_ne 227 d_XModel_work_210 (by decide) (fun c53 => ?_) (fun c53 => ?_)
          · rw [if_neg c53] at h
            refine ew_aload_n 0 d_XModel_work_227 rfl rfl ?_
            obtain ⟨v54, av54, bv54, h⟩ := gR_inv h
            refine ew_gR 0 22 d_XModel_work_228 fl_XModel_66 av54 bv54 ?_
            refine ew_aload_n 0 d_XModel_work_231 rfl rfl ?_
            obtain ⟨v55, av55, bv55, h⟩ := gR_inv h
            refine ew_gR 0 6 d_XModel_work_232 fl_XModel_23 av55 bv55 ?_
            refine ew_iload_n 1 d_XModel_work_235 rfl rfl ?_
            obtain ⟨v56, av56, bv56, cv56, ev56, h⟩ := lI_inv h
            refine ew_lI d_XModel_work_236 av56 bv56 cv56 ev56 ?_
            obtain ⟨v57, av57, bv57, cv57, ev57, h⟩ := lI_inv h
            refine ew_lI d_XModel_work_237 av57 bv57 cv57 ev57 ?_
            exact E_XModel_work_238 hn hl ih h
          · rw [if_pos c53] at h
            refine ew_aload_n 0 d_XModel_work_213 rfl rfl ?_
            obtain ⟨v58, av58, bv58, h⟩ := gR_inv h
            refine ew_gR 0 22 d_XModel_work_214 fl_XModel_66 av58 bv58 ?_
            refine ew_aload_n 0 d_XModel_work_217 rfl rfl ?_
            obtain ⟨v59, av59, bv59, h⟩ := gR_inv h
            refine ew_gR 0 5 d_XModel_work_218 fl_XModel_20 av59 bv59 ?_
            refine ew_iload_n 1 d_XModel_work_221 rfl rfl ?_
            obtain ⟨v60, av60, bv60, cv60, ev60, h⟩ := lI_inv h
            refine ew_lI d_XModel_work_222 av60 bv60 cv60 ev60 ?_
            obtain ⟨v61, av61, bv61, cv61, ev61, h⟩ := lI_inv h
            refine ew_lI d_XModel_work_223 av61 bv61 cv61 ev61 ?_
            refine ew_goto 238 d_XModel_work_224 (by decide) ?_
            exact E_XModel_work_238 hn hl ih h
        rw [if_neg c47] at h
        have zc8 := lv_neT c8 (show (0 : Int32).toInt = 0 by decide)
        have zc11 := lv_neT c11 (show (1 : Int32).toInt = 1 by decide)
        have zc14 := lv_neT c14 (show (2 : Int32).toInt = 2 by decide)
        have zc15 := lv_neT c15 (show (3 : Int32).toInt = 3 by decide)
        have zc16 := lv_neT c16 (show (4 : Int32).toInt = 4 by decide)
        have zc17 := lv_neT c17 (show (5 : Int32).toInt = 5 by decide)
        have zc18 := lv_neT c18 (show (6 : Int32).toInt = 6 by decide)
        have zc29 := lv_neT c29 (show (7 : Int32).toInt = 7 by decide)
        have zc36 := lv_neT c36 (show (8 : Int32).toInt = 8 by decide)
        have zc47 := lv_neT c47 (show (9 : Int32).toInt = 9 by decide)
        refine ew_swOut 242 d_XModel_work_25 (by omega) (by decide) ?_
        exact E_XModel_work_242 hn hl ih h
def F_XModel_work (n : Nat) (l0 : Nat) (M : PM) : qO :=
  F_XModel_work_2 n n l0 (0 : Int32) M
set_option maxHeartbeats 4000000 in
set_option maxRecDepth 100000 in
theorem E_XModel_work {g : qG} {X : qX} {Z : qZ} (hn : 0 ≤ zn Z) (hl : 0 ≤ zl Z) {n : Nat} {l0 : Nat} {M : PM} (h : F_XModel_work n l0 M = some (zr Z, zf Z)) : EW Y_XModel_work g X Z 0 [(0, .ref l0)] [] M := by
  unfold F_XModel_work at h
  refine ew_iconst (0) d_XModel_work_0 (by decide) ?_
  refine ew_istore_n (L' := [(0, .ref l0), (1, .int (0 : Int32))]) 1 [1, 0] d_XModel_work_1 rfl (by decide) rfl ?_
  exact E_XModel_work_2 hn hl n l0 (0 : Int32) M h
theorem T_XModel_work {n : Nat} {l0 : Nat} {M Mf : PM} {res : qRs} (h : F_XModel_work n l0 M = some (res, Mf)) : CT Y_XModel_work 0 0 [.ref l0] M res Mf :=
  CT_of (by decide) (Nat.le_of_ble_eq_true rfl) (qHd_ne (by decide)) (fun g X ad0 => E_XModel_work (g := g) (X := X) (Z := (ad0, M, res, Mf, 0, 0)) (Nat.le_refl _) (Nat.le_refl _) h)
theorem d_XModel_areFunctions_0 : decode Y_XModel_areFunctions.2.1 0 = .ok (.iconst 1, 1) := by decide +kernel
theorem d_XModel_areFunctions_1 : decode Y_XModel_areFunctions.2.1 1 = .ok (.istore_n 1, 1) := by decide +kernel
theorem d_XModel_areFunctions_2 : decode Y_XModel_areFunctions.2.1 2 = .ok (.aload_n 0, 1) := by decide +kernel
theorem d_XModel_areFunctions_3 : decode Y_XModel_areFunctions.2.1 3 = .ok (.getfield 164, 3) := by decide +kernel
theorem d_XModel_areFunctions_6 : decode Y_XModel_areFunctions.2.1 6 = .ok (.istore_n 2, 1) := by decide +kernel
theorem d_XModel_areFunctions_7 : decode Y_XModel_areFunctions.2.1 7 = .ok (.iload_n 2, 1) := by decide +kernel
theorem d_XModel_areFunctions_8 : decode Y_XModel_areFunctions.2.1 8 = .ok (.aload_n 0, 1) := by decide +kernel
theorem d_XModel_areFunctions_9 : decode Y_XModel_areFunctions.2.1 9 = .ok (.getfield 164, 3) := by decide +kernel
theorem d_XModel_areFunctions_12 : decode Y_XModel_areFunctions.2.1 12 = .ok (.aload_n 0, 1) := by decide +kernel
theorem d_XModel_areFunctions_13 : decode Y_XModel_areFunctions.2.1 13 = .ok (.getfield 176, 3) := by decide +kernel
theorem d_XModel_areFunctions_16 : decode Y_XModel_areFunctions.2.1 16 = .ok (.iadd, 1) := by decide +kernel
theorem d_XModel_areFunctions_17 : decode Y_XModel_areFunctions.2.1 17 = .ok (.if_icmp .ge (190), 3) := by decide +kernel
theorem d_XModel_areFunctions_20 : decode Y_XModel_areFunctions.2.1 20 = .ok (.aload_n 0, 1) := by decide +kernel
theorem d_XModel_areFunctions_21 : decode Y_XModel_areFunctions.2.1 21 = .ok (.getfield 69, 3) := by decide +kernel
theorem d_XModel_areFunctions_24 : decode Y_XModel_areFunctions.2.1 24 = .ok (.iload_n 2, 1) := by decide +kernel
theorem d_XModel_areFunctions_25 : decode Y_XModel_areFunctions.2.1 25 = .ok (.iaload, 1) := by decide +kernel
theorem d_XModel_areFunctions_26 : decode Y_XModel_areFunctions.2.1 26 = .ok (.istore_n 3, 1) := by decide +kernel
theorem d_XModel_areFunctions_27 : decode Y_XModel_areFunctions.2.1 27 = .ok (.aload_n 0, 1) := by decide +kernel
theorem d_XModel_areFunctions_28 : decode Y_XModel_areFunctions.2.1 28 = .ok (.getfield 164, 3) := by decide +kernel
theorem d_XModel_areFunctions_31 : decode Y_XModel_areFunctions.2.1 31 = .ok (.istore 4, 2) := by decide +kernel
theorem d_XModel_areFunctions_33 : decode Y_XModel_areFunctions.2.1 33 = .ok (.iload 4, 2) := by decide +kernel
theorem d_XModel_areFunctions_35 : decode Y_XModel_areFunctions.2.1 35 = .ok (.iload_n 2, 1) := by decide +kernel
theorem d_XModel_areFunctions_36 : decode Y_XModel_areFunctions.2.1 36 = .ok (.if_icmp .ge (165), 3) := by decide +kernel
theorem d_XModel_areFunctions_39 : decode Y_XModel_areFunctions.2.1 39 = .ok (.aload_n 0, 1) := by decide +kernel
theorem d_XModel_areFunctions_40 : decode Y_XModel_areFunctions.2.1 40 = .ok (.getfield 69, 3) := by decide +kernel
theorem d_XModel_areFunctions_43 : decode Y_XModel_areFunctions.2.1 43 = .ok (.iload 4, 2) := by decide +kernel
theorem d_XModel_areFunctions_45 : decode Y_XModel_areFunctions.2.1 45 = .ok (.iaload, 1) := by decide +kernel
theorem d_XModel_areFunctions_46 : decode Y_XModel_areFunctions.2.1 46 = .ok (.istore 5, 2) := by decide +kernel
theorem d_XModel_areFunctions_48 : decode Y_XModel_areFunctions.2.1 48 = .ok (.aload_n 0, 1) := by decide +kernel
theorem d_XModel_areFunctions_49 : decode Y_XModel_areFunctions.2.1 49 = .ok (.getfield 23, 3) := by decide +kernel
theorem d_XModel_areFunctions_52 : decode Y_XModel_areFunctions.2.1 52 = .ok (.iload_n 3, 1) := by decide +kernel
theorem d_XModel_areFunctions_53 : decode Y_XModel_areFunctions.2.1 53 = .ok (.iaload, 1) := by decide +kernel
theorem d_XModel_areFunctions_54 : decode Y_XModel_areFunctions.2.1 54 = .ok (.aload_n 0, 1) := by decide +kernel
theorem d_XModel_areFunctions_55 : decode Y_XModel_areFunctions.2.1 55 = .ok (.getfield 23, 3) := by decide +kernel
theorem d_XModel_areFunctions_58 : decode Y_XModel_areFunctions.2.1 58 = .ok (.iload 5, 2) := by decide +kernel
theorem d_XModel_areFunctions_60 : decode Y_XModel_areFunctions.2.1 60 = .ok (.iaload, 1) := by decide +kernel
theorem d_XModel_areFunctions_61 : decode Y_XModel_areFunctions.2.1 61 = .ok (.if_icmp .ne (100), 3) := by decide +kernel
theorem d_XModel_areFunctions_64 : decode Y_XModel_areFunctions.2.1 64 = .ok (.aload_n 0, 1) := by decide +kernel
theorem d_XModel_areFunctions_65 : decode Y_XModel_areFunctions.2.1 65 = .ok (.getfield 20, 3) := by decide +kernel
theorem d_XModel_areFunctions_68 : decode Y_XModel_areFunctions.2.1 68 = .ok (.iload_n 3, 1) := by decide +kernel
theorem d_XModel_areFunctions_69 : decode Y_XModel_areFunctions.2.1 69 = .ok (.iaload, 1) := by decide +kernel
theorem d_XModel_areFunctions_70 : decode Y_XModel_areFunctions.2.1 70 = .ok (.ifCond .ge (7), 3) := by decide +kernel
theorem d_XModel_areFunctions_73 : decode Y_XModel_areFunctions.2.1 73 = .ok (.iconst 1, 1) := by decide +kernel
theorem d_XModel_areFunctions_74 : decode Y_XModel_areFunctions.2.1 74 = .ok (.goto (4), 3) := by decide +kernel
theorem d_XModel_areFunctions_77 : decode Y_XModel_areFunctions.2.1 77 = .ok (.iconst 0, 1) := by decide +kernel
theorem d_XModel_areFunctions_78 : decode Y_XModel_areFunctions.2.1 78 = .ok (.aload_n 0, 1) := by decide +kernel
theorem d_XModel_areFunctions_79 : decode Y_XModel_areFunctions.2.1 79 = .ok (.getfield 20, 3) := by decide +kernel
theorem d_XModel_areFunctions_82 : decode Y_XModel_areFunctions.2.1 82 = .ok (.iload 5, 2) := by decide +kernel
theorem d_XModel_areFunctions_84 : decode Y_XModel_areFunctions.2.1 84 = .ok (.iaload, 1) := by decide +kernel
theorem d_XModel_areFunctions_85 : decode Y_XModel_areFunctions.2.1 85 = .ok (.ifCond .ge (7), 3) := by decide +kernel
theorem d_XModel_areFunctions_88 : decode Y_XModel_areFunctions.2.1 88 = .ok (.iconst 1, 1) := by decide +kernel
theorem d_XModel_areFunctions_89 : decode Y_XModel_areFunctions.2.1 89 = .ok (.goto (4), 3) := by decide +kernel
theorem d_XModel_areFunctions_92 : decode Y_XModel_areFunctions.2.1 92 = .ok (.iconst 0, 1) := by decide +kernel
theorem d_XModel_areFunctions_93 : decode Y_XModel_areFunctions.2.1 93 = .ok (.if_icmp .ne (68), 3) := by decide +kernel
theorem d_XModel_areFunctions_96 : decode Y_XModel_areFunctions.2.1 96 = .ok (.aload_n 0, 1) := by decide +kernel
theorem d_XModel_areFunctions_97 : decode Y_XModel_areFunctions.2.1 97 = .ok (.getfield 66, 3) := by decide +kernel
theorem d_XModel_areFunctions_100 : decode Y_XModel_areFunctions.2.1 100 = .ok (.aload_n 0, 1) := by decide +kernel
theorem d_XModel_areFunctions_101 : decode Y_XModel_areFunctions.2.1 101 = .ok (.getfield 17, 3) := by decide +kernel
theorem d_XModel_areFunctions_104 : decode Y_XModel_areFunctions.2.1 104 = .ok (.iload_n 3, 1) := by decide +kernel
theorem d_XModel_areFunctions_105 : decode Y_XModel_areFunctions.2.1 105 = .ok (.iaload, 1) := by decide +kernel
theorem d_XModel_areFunctions_106 : decode Y_XModel_areFunctions.2.1 106 = .ok (.iaload, 1) := by decide +kernel
theorem d_XModel_areFunctions_107 : decode Y_XModel_areFunctions.2.1 107 = .ok (.aload_n 0, 1) := by decide +kernel
theorem d_XModel_areFunctions_108 : decode Y_XModel_areFunctions.2.1 108 = .ok (.getfield 66, 3) := by decide +kernel
theorem d_XModel_areFunctions_111 : decode Y_XModel_areFunctions.2.1 111 = .ok (.aload_n 0, 1) := by decide +kernel
theorem d_XModel_areFunctions_112 : decode Y_XModel_areFunctions.2.1 112 = .ok (.getfield 17, 3) := by decide +kernel
theorem d_XModel_areFunctions_115 : decode Y_XModel_areFunctions.2.1 115 = .ok (.iload 5, 2) := by decide +kernel
theorem d_XModel_areFunctions_117 : decode Y_XModel_areFunctions.2.1 117 = .ok (.iaload, 1) := by decide +kernel
theorem d_XModel_areFunctions_118 : decode Y_XModel_areFunctions.2.1 118 = .ok (.iaload, 1) := by decide +kernel
theorem d_XModel_areFunctions_119 : decode Y_XModel_areFunctions.2.1 119 = .ok (.if_icmp .ne (42), 3) := by decide +kernel
theorem d_XModel_areFunctions_122 : decode Y_XModel_areFunctions.2.1 122 = .ok (.aload_n 0, 1) := by decide +kernel
theorem d_XModel_areFunctions_123 : decode Y_XModel_areFunctions.2.1 123 = .ok (.getfield 20, 3) := by decide +kernel
theorem d_XModel_areFunctions_126 : decode Y_XModel_areFunctions.2.1 126 = .ok (.iload_n 3, 1) := by decide +kernel
theorem d_XModel_areFunctions_127 : decode Y_XModel_areFunctions.2.1 127 = .ok (.iaload, 1) := by decide +kernel
theorem d_XModel_areFunctions_128 : decode Y_XModel_areFunctions.2.1 128 = .ok (.ifCond .lt (29), 3) := by decide +kernel
theorem d_XModel_areFunctions_131 : decode Y_XModel_areFunctions.2.1 131 = .ok (.aload_n 0, 1) := by decide +kernel
theorem d_XModel_areFunctions_132 : decode Y_XModel_areFunctions.2.1 132 = .ok (.getfield 66, 3) := by decide +kernel
theorem d_XModel_areFunctions_135 : decode Y_XModel_areFunctions.2.1 135 = .ok (.aload_n 0, 1) := by decide +kernel
theorem d_XModel_areFunctions_136 : decode Y_XModel_areFunctions.2.1 136 = .ok (.getfield 20, 3) := by decide +kernel
theorem d_XModel_areFunctions_139 : decode Y_XModel_areFunctions.2.1 139 = .ok (.iload_n 3, 1) := by decide +kernel
theorem d_XModel_areFunctions_140 : decode Y_XModel_areFunctions.2.1 140 = .ok (.iaload, 1) := by decide +kernel
theorem d_XModel_areFunctions_141 : decode Y_XModel_areFunctions.2.1 141 = .ok (.iaload, 1) := by decide +kernel
theorem d_XModel_areFunctions_142 : decode Y_XModel_areFunctions.2.1 142 = .ok (.aload_n 0, 1) := by decide +kernel
theorem d_XModel_areFunctions_143 : decode Y_XModel_areFunctions.2.1 143 = .ok (.getfield 66, 3) := by decide +kernel
theorem d_XModel_areFunctions_146 : decode Y_XModel_areFunctions.2.1 146 = .ok (.aload_n 0, 1) := by decide +kernel
theorem d_XModel_areFunctions_147 : decode Y_XModel_areFunctions.2.1 147 = .ok (.getfield 20, 3) := by decide +kernel
theorem d_XModel_areFunctions_150 : decode Y_XModel_areFunctions.2.1 150 = .ok (.iload 5, 2) := by decide +kernel
theorem d_XModel_areFunctions_152 : decode Y_XModel_areFunctions.2.1 152 = .ok (.iaload, 1) := by decide +kernel
theorem d_XModel_areFunctions_153 : decode Y_XModel_areFunctions.2.1 153 = .ok (.iaload, 1) := by decide +kernel
theorem d_XModel_areFunctions_154 : decode Y_XModel_areFunctions.2.1 154 = .ok (.if_icmp .ne (7), 3) := by decide +kernel
theorem d_XModel_areFunctions_157 : decode Y_XModel_areFunctions.2.1 157 = .ok (.iconst 1, 1) := by decide +kernel
theorem d_XModel_areFunctions_158 : decode Y_XModel_areFunctions.2.1 158 = .ok (.goto (4), 3) := by decide +kernel
theorem d_XModel_areFunctions_161 : decode Y_XModel_areFunctions.2.1 161 = .ok (.iconst 0, 1) := by decide +kernel
theorem d_XModel_areFunctions_162 : decode Y_XModel_areFunctions.2.1 162 = .ok (.istore 6, 2) := by decide +kernel
theorem d_XModel_areFunctions_164 : decode Y_XModel_areFunctions.2.1 164 = .ok (.iload_n 1, 1) := by decide +kernel
theorem d_XModel_areFunctions_165 : decode Y_XModel_areFunctions.2.1 165 = .ok (.ifCond .eq (28), 3) := by decide +kernel
theorem d_XModel_areFunctions_168 : decode Y_XModel_areFunctions.2.1 168 = .ok (.iload 6, 2) := by decide +kernel
theorem d_XModel_areFunctions_170 : decode Y_XModel_areFunctions.2.1 170 = .ok (.ifCond .eq (19), 3) := by decide +kernel
theorem d_XModel_areFunctions_173 : decode Y_XModel_areFunctions.2.1 173 = .ok (.aload_n 0, 1) := by decide +kernel
theorem d_XModel_areFunctions_174 : decode Y_XModel_areFunctions.2.1 174 = .ok (.getfield 66, 3) := by decide +kernel
theorem d_XModel_areFunctions_177 : decode Y_XModel_areFunctions.2.1 177 = .ok (.iload_n 3, 1) := by decide +kernel
theorem d_XModel_areFunctions_178 : decode Y_XModel_areFunctions.2.1 178 = .ok (.iaload, 1) := by decide +kernel
theorem d_XModel_areFunctions_179 : decode Y_XModel_areFunctions.2.1 179 = .ok (.aload_n 0, 1) := by decide +kernel
theorem d_XModel_areFunctions_180 : decode Y_XModel_areFunctions.2.1 180 = .ok (.getfield 66, 3) := by decide +kernel
theorem d_XModel_areFunctions_183 : decode Y_XModel_areFunctions.2.1 183 = .ok (.iload 5, 2) := by decide +kernel
theorem d_XModel_areFunctions_185 : decode Y_XModel_areFunctions.2.1 185 = .ok (.iaload, 1) := by decide +kernel
theorem d_XModel_areFunctions_186 : decode Y_XModel_areFunctions.2.1 186 = .ok (.if_icmp .ne (7), 3) := by decide +kernel
theorem d_XModel_areFunctions_189 : decode Y_XModel_areFunctions.2.1 189 = .ok (.iconst 1, 1) := by decide +kernel
theorem d_XModel_areFunctions_190 : decode Y_XModel_areFunctions.2.1 190 = .ok (.goto (4), 3) := by decide +kernel
theorem d_XModel_areFunctions_193 : decode Y_XModel_areFunctions.2.1 193 = .ok (.iconst 0, 1) := by decide +kernel
theorem d_XModel_areFunctions_194 : decode Y_XModel_areFunctions.2.1 194 = .ok (.istore_n 1, 1) := by decide +kernel
theorem d_XModel_areFunctions_195 : decode Y_XModel_areFunctions.2.1 195 = .ok (.iinc 4 (1), 3) := by decide +kernel
theorem d_XModel_areFunctions_198 : decode Y_XModel_areFunctions.2.1 198 = .ok (.goto (-165), 3) := by decide +kernel
theorem d_XModel_areFunctions_201 : decode Y_XModel_areFunctions.2.1 201 = .ok (.iinc 2 (1), 3) := by decide +kernel
theorem d_XModel_areFunctions_204 : decode Y_XModel_areFunctions.2.1 204 = .ok (.goto (-197), 3) := by decide +kernel
theorem d_XModel_areFunctions_207 : decode Y_XModel_areFunctions.2.1 207 = .ok (.iload_n 1, 1) := by decide +kernel
theorem d_XModel_areFunctions_208 : decode Y_XModel_areFunctions.2.1 208 = .ok (.ireturn, 1) := by decide +kernel
def F_XModel_areFunctions_194 (n : Nat) (rec7 : Nat → Int32 → Int32 → PM → qO) (rec33 : Nat → Int32 → Int32 → Int32 → Int32 → PM → qO) (l0 : Nat) (l2 : Int32) (l3 : Int32) (l4 : Int32) (s0 : Int32) (M : PM) : qO :=
  bI (l4 + (1 : Int32)) (fun v1 =>
  rec33 l0 s0 l2 l3 v1 M)
set_option maxHeartbeats 4000000 in
set_option maxRecDepth 100000 in
theorem E_XModel_areFunctions_194 {g : qG} {X : qX} {Z : qZ} (hn : 0 ≤ zn Z) (hl : 0 ≤ zl Z) {n : Nat} {rec7 : Nat → Int32 → Int32 → PM → qO} {rec33 : Nat → Int32 → Int32 → Int32 → Int32 → PM → qO} (hrec7 : ∀ (l0 : Nat) (l1 : Int32) (l2 : Int32) (M : PM), rec7 l0 l1 l2 M = some (zr Z, zf Z) → EW Y_XModel_areFunctions g X Z 7 [(0, .ref l0), (1, .int l1), (2, .int l2)] [] M) (hrec33 : ∀ (l0 : Nat) (l1 : Int32) (l2 : Int32) (l3 : Int32) (l4 : Int32) (M : PM), rec33 l0 l1 l2 l3 l4 M = some (zr Z, zf Z) → EW Y_XModel_areFunctions g X Z 33 [(0, .ref l0), (1, .int l1), (2, .int l2), (3, .int l3), (4, .int l4)] [] M) {l0 : Nat} {l2 : Int32} {l3 : Int32} {l4 : Int32} {s0 : Int32} {M : PM} (h : F_XModel_areFunctions_194 n rec7 rec33 l0 l2 l3 l4 s0 M = some (zr Z, zf Z)) : EW Y_XModel_areFunctions g X Z 194 [(0, .ref l0), (2, .int l2), (3, .int l3), (4, .int l4)] [.int s0] M := by
  unfold F_XModel_areFunctions_194 at h
  refine ew_istore_n (L' := [(0, .ref l0), (1, .int s0), (2, .int l2), (3, .int l3), (4, .int l4)]) 1 [1, 0, 2, 3, 4] d_XModel_areFunctions_194 rfl (by decide) rfl ?_
  obtain ⟨v1, ev1, h⟩ := bI_inv h
  refine ew_iinc (L' := [(0, .ref l0), (1, .int s0), (2, .int l2), (3, .int l3), (4, .int v1)]) v1 [1, 2, 3, 4, 0] d_XModel_areFunctions_195 rfl (by rw [ev1]; rfl) (by decide) rfl ?_
  refine ew_goto 33 d_XModel_areFunctions_198 (by decide) ?_
  exact hrec33 l0 s0 l2 l3 v1 M h
def F_XModel_areFunctions_193 (n : Nat) (rec7 : Nat → Int32 → Int32 → PM → qO) (rec33 : Nat → Int32 → Int32 → Int32 → Int32 → PM → qO) (l0 : Nat) (l2 : Int32) (l3 : Int32) (l4 : Int32) (M : PM) : qO :=
  F_XModel_areFunctions_194 n rec7 rec33 l0 l2 l3 l4 (0 : Int32) M
set_option maxHeartbeats 4000000 in
set_option maxRecDepth 100000 in
theorem E_XModel_areFunctions_193 {g : qG} {X : qX} {Z : qZ} (hn : 0 ≤ zn Z) (hl : 0 ≤ zl Z) {n : Nat} {rec7 : Nat → Int32 → Int32 → PM → qO} {rec33 : Nat → Int32 → Int32 → Int32 → Int32 → PM → qO} (hrec7 : ∀ (l0 : Nat) (l1 : Int32) (l2 : Int32) (M : PM), rec7 l0 l1 l2 M = some (zr Z, zf Z) → EW Y_XModel_areFunctions g X Z 7 [(0, .ref l0), (1, .int l1), (2, .int l2)] [] M) (hrec33 : ∀ (l0 : Nat) (l1 : Int32) (l2 : Int32) (l3 : Int32) (l4 : Int32) (M : PM), rec33 l0 l1 l2 l3 l4 M = some (zr Z, zf Z) → EW Y_XModel_areFunctions g X Z 33 [(0, .ref l0), (1, .int l1), (2, .int l2), (3, .int l3), (4, .int l4)] [] M) {l0 : Nat} {l2 : Int32} {l3 : Int32} {l4 : Int32} {M : PM} (h : F_XModel_areFunctions_193 n rec7 rec33 l0 l2 l3 l4 M = some (zr Z, zf Z)) : EW Y_XModel_areFunctions g X Z 193 [(0, .ref l0), (2, .int l2), (3, .int l3), (4, .int l4)] [] M := by
  unfold F_XModel_areFunctions_193 at h
  refine ew_iconst (0) d_XModel_areFunctions_193 (by decide) ?_
  exact E_XModel_areFunctions_194 hn hl hrec7 hrec33 h
def F_XModel_areFunctions_189 (n : Nat) (rec7 : Nat → Int32 → Int32 → PM → qO) (rec33 : Nat → Int32 → Int32 → Int32 → Int32 → PM → qO) (l0 : Nat) (l2 : Int32) (l3 : Int32) (l4 : Int32) (M : PM) : qO :=
  F_XModel_areFunctions_194 n rec7 rec33 l0 l2 l3 l4 (1 : Int32) M
set_option maxHeartbeats 4000000 in
set_option maxRecDepth 100000 in
theorem E_XModel_areFunctions_189 {g : qG} {X : qX} {Z : qZ} (hn : 0 ≤ zn Z) (hl : 0 ≤ zl Z) {n : Nat} {rec7 : Nat → Int32 → Int32 → PM → qO} {rec33 : Nat → Int32 → Int32 → Int32 → Int32 → PM → qO} (hrec7 : ∀ (l0 : Nat) (l1 : Int32) (l2 : Int32) (M : PM), rec7 l0 l1 l2 M = some (zr Z, zf Z) → EW Y_XModel_areFunctions g X Z 7 [(0, .ref l0), (1, .int l1), (2, .int l2)] [] M) (hrec33 : ∀ (l0 : Nat) (l1 : Int32) (l2 : Int32) (l3 : Int32) (l4 : Int32) (M : PM), rec33 l0 l1 l2 l3 l4 M = some (zr Z, zf Z) → EW Y_XModel_areFunctions g X Z 33 [(0, .ref l0), (1, .int l1), (2, .int l2), (3, .int l3), (4, .int l4)] [] M) {l0 : Nat} {l2 : Int32} {l3 : Int32} {l4 : Int32} {M : PM} (h : F_XModel_areFunctions_189 n rec7 rec33 l0 l2 l3 l4 M = some (zr Z, zf Z)) : EW Y_XModel_areFunctions g X Z 189 [(0, .ref l0), (2, .int l2), (3, .int l3), (4, .int l4)] [] M := by
  unfold F_XModel_areFunctions_189 at h
  refine ew_iconst (1) d_XModel_areFunctions_189 (by decide) ?_
  refine ew_goto 194 d_XModel_areFunctions_190 (by decide) ?_
  exact E_XModel_areFunctions_194 hn hl hrec7 hrec33 h
def F_XModel_areFunctions_162 (n : Nat) (rec7 : Nat → Int32 → Int32 → PM → qO) (rec33 : Nat → Int32 → Int32 → Int32 → Int32 → PM → qO) (l0 : Nat) (l1 : Int32) (l2 : Int32) (l3 : Int32) (l4 : Int32) (l5 : Int32) (s0 : Int32) (M : PM) : qO :=
  if l1 = (0 : Int32) then
    F_XModel_areFunctions_193 n rec7 rec33 l0 l2 l3 l4 M
  else
    if s0 = (0 : Int32) then
      F_XModel_areFunctions_189 n rec7 rec33 l0 l2 l3 l4 M
    else
      gR 0 M l0 22 (fun v3 =>
      lI M v3 l3 (fun v4 =>
      gR 0 M l0 22 (fun v5 =>
      lI M v5 l5 (fun v6 =>
      if v4 = v6 then
        F_XModel_areFunctions_189 n rec7 rec33 l0 l2 l3 l4 M
      else
        F_XModel_areFunctions_193 n rec7 rec33 l0 l2 l3 l4 M))))
set_option maxHeartbeats 4000000 in
set_option maxRecDepth 100000 in
theorem E_XModel_areFunctions_162 {g : qG} {X : qX} {Z : qZ} (hn : 0 ≤ zn Z) (hl : 0 ≤ zl Z) {n : Nat} {rec7 : Nat → Int32 → Int32 → PM → qO} {rec33 : Nat → Int32 → Int32 → Int32 → Int32 → PM → qO} (hrec7 : ∀ (l0 : Nat) (l1 : Int32) (l2 : Int32) (M : PM), rec7 l0 l1 l2 M = some (zr Z, zf Z) → EW Y_XModel_areFunctions g X Z 7 [(0, .ref l0), (1, .int l1), (2, .int l2)] [] M) (hrec33 : ∀ (l0 : Nat) (l1 : Int32) (l2 : Int32) (l3 : Int32) (l4 : Int32) (M : PM), rec33 l0 l1 l2 l3 l4 M = some (zr Z, zf Z) → EW Y_XModel_areFunctions g X Z 33 [(0, .ref l0), (1, .int l1), (2, .int l2), (3, .int l3), (4, .int l4)] [] M) {l0 : Nat} {l1 : Int32} {l2 : Int32} {l3 : Int32} {l4 : Int32} {l5 : Int32} {s0 : Int32} {M : PM} (h : F_XModel_areFunctions_162 n rec7 rec33 l0 l1 l2 l3 l4 l5 s0 M = some (zr Z, zf Z)) : EW Y_XModel_areFunctions g X Z 162 [(0, .ref l0), (1, .int l1), (2, .int l2), (3, .int l3), (4, .int l4), (5, .int l5)] [.int s0] M := by
  unfold F_XModel_areFunctions_162 at h
  refine ew_istore (L' := [(0, .ref l0), (1, .int l1), (2, .int l2), (3, .int l3), (4, .int l4), (5, .int l5), (6, .int s0)]) [1, 2, 3, 4, 5, 6, 0] d_XModel_areFunctions_162 (by decide) rfl ?_
  refine ew_iload_n 1 d_XModel_areFunctions_164 rfl rfl ?_
  refine ew_if_eq 193 d_XModel_areFunctions_165 (by decide) (fun c1 => ?_) (fun c1 => ?_)
  · rw [if_pos c1] at h
    exact ew_pick (L' := [(0, .ref l0), (2, .int l2), (3, .int l3), (4, .int l4)]) [0, 2, 3, 4] rfl (E_XModel_areFunctions_193 hn hl hrec7 hrec33 h)
  · rw [if_neg c1] at h
    refine ew_iload d_XModel_areFunctions_168 rfl ?_
    refine ew_if_eq 189 d_XModel_areFunctions_170 (by decide) (fun c2 => ?_) (fun c2 => ?_)
    · rw [if_pos c2] at h
      exact ew_pick (L' := [(0, .ref l0), (2, .int l2), (3, .int l3), (4, .int l4)]) [0, 2, 3, 4] rfl (E_XModel_areFunctions_189 hn hl hrec7 hrec33 h)
    · rw [if_neg c2] at h
      refine ew_aload_n 0 d_XModel_areFunctions_173 rfl rfl ?_
      obtain ⟨v3, av3, bv3, h⟩ := gR_inv h
      refine ew_gR 0 22 d_XModel_areFunctions_174 fl_XModel_66 av3 bv3 ?_
      refine ew_iload_n 3 d_XModel_areFunctions_177 rfl rfl ?_
      obtain ⟨v4, av4, bv4, cv4, ev4, h⟩ := lI_inv h
      refine ew_lI d_XModel_areFunctions_178 av4 bv4 cv4 ev4 ?_
      refine ew_aload_n 0 d_XModel_areFunctions_179 rfl rfl ?_
      obtain ⟨v5, av5, bv5, h⟩ := gR_inv h
      refine ew_gR 0 22 d_XModel_areFunctions_180 fl_XModel_66 av5 bv5 ?_
      refine ew_iload d_XModel_areFunctions_183 rfl ?_
      obtain ⟨v6, av6, bv6, cv6, ev6, h⟩ := lI_inv h
      refine ew_lI d_XModel_areFunctions_185 av6 bv6 cv6 ev6 ?_
      refine ew_icmp_ne 193 d_XModel_areFunctions_186 (by decide) (fun c7 => ?_) (fun c7 => ?_)
      · rw [if_neg c7] at h
        exact ew_pick (L' := [(0, .ref l0), (2, .int l2), (3, .int l3), (4, .int l4)]) [0, 2, 3, 4] rfl (E_XModel_areFunctions_193 hn hl hrec7 hrec33 h)
      · rw [if_pos c7] at h
        exact ew_pick (L' := [(0, .ref l0), (2, .int l2), (3, .int l3), (4, .int l4)]) [0, 2, 3, 4] rfl (E_XModel_areFunctions_189 hn hl hrec7 hrec33 h)
def F_XModel_areFunctions_161 (n : Nat) (rec7 : Nat → Int32 → Int32 → PM → qO) (rec33 : Nat → Int32 → Int32 → Int32 → Int32 → PM → qO) (l0 : Nat) (l1 : Int32) (l2 : Int32) (l3 : Int32) (l4 : Int32) (l5 : Int32) (M : PM) : qO :=
  F_XModel_areFunctions_162 n rec7 rec33 l0 l1 l2 l3 l4 l5 (0 : Int32) M
set_option maxHeartbeats 4000000 in
set_option maxRecDepth 100000 in
theorem E_XModel_areFunctions_161 {g : qG} {X : qX} {Z : qZ} (hn : 0 ≤ zn Z) (hl : 0 ≤ zl Z) {n : Nat} {rec7 : Nat → Int32 → Int32 → PM → qO} {rec33 : Nat → Int32 → Int32 → Int32 → Int32 → PM → qO} (hrec7 : ∀ (l0 : Nat) (l1 : Int32) (l2 : Int32) (M : PM), rec7 l0 l1 l2 M = some (zr Z, zf Z) → EW Y_XModel_areFunctions g X Z 7 [(0, .ref l0), (1, .int l1), (2, .int l2)] [] M) (hrec33 : ∀ (l0 : Nat) (l1 : Int32) (l2 : Int32) (l3 : Int32) (l4 : Int32) (M : PM), rec33 l0 l1 l2 l3 l4 M = some (zr Z, zf Z) → EW Y_XModel_areFunctions g X Z 33 [(0, .ref l0), (1, .int l1), (2, .int l2), (3, .int l3), (4, .int l4)] [] M) {l0 : Nat} {l1 : Int32} {l2 : Int32} {l3 : Int32} {l4 : Int32} {l5 : Int32} {M : PM} (h : F_XModel_areFunctions_161 n rec7 rec33 l0 l1 l2 l3 l4 l5 M = some (zr Z, zf Z)) : EW Y_XModel_areFunctions g X Z 161 [(0, .ref l0), (1, .int l1), (2, .int l2), (3, .int l3), (4, .int l4), (5, .int l5)] [] M := by
  unfold F_XModel_areFunctions_161 at h
  refine ew_iconst (0) d_XModel_areFunctions_161 (by decide) ?_
  exact E_XModel_areFunctions_162 hn hl hrec7 hrec33 h
def F_XModel_areFunctions_157 (n : Nat) (rec7 : Nat → Int32 → Int32 → PM → qO) (rec33 : Nat → Int32 → Int32 → Int32 → Int32 → PM → qO) (l0 : Nat) (l1 : Int32) (l2 : Int32) (l3 : Int32) (l4 : Int32) (l5 : Int32) (M : PM) : qO :=
  F_XModel_areFunctions_162 n rec7 rec33 l0 l1 l2 l3 l4 l5 (1 : Int32) M
set_option maxHeartbeats 4000000 in
set_option maxRecDepth 100000 in
theorem E_XModel_areFunctions_157 {g : qG} {X : qX} {Z : qZ} (hn : 0 ≤ zn Z) (hl : 0 ≤ zl Z) {n : Nat} {rec7 : Nat → Int32 → Int32 → PM → qO} {rec33 : Nat → Int32 → Int32 → Int32 → Int32 → PM → qO} (hrec7 : ∀ (l0 : Nat) (l1 : Int32) (l2 : Int32) (M : PM), rec7 l0 l1 l2 M = some (zr Z, zf Z) → EW Y_XModel_areFunctions g X Z 7 [(0, .ref l0), (1, .int l1), (2, .int l2)] [] M) (hrec33 : ∀ (l0 : Nat) (l1 : Int32) (l2 : Int32) (l3 : Int32) (l4 : Int32) (M : PM), rec33 l0 l1 l2 l3 l4 M = some (zr Z, zf Z) → EW Y_XModel_areFunctions g X Z 33 [(0, .ref l0), (1, .int l1), (2, .int l2), (3, .int l3), (4, .int l4)] [] M) {l0 : Nat} {l1 : Int32} {l2 : Int32} {l3 : Int32} {l4 : Int32} {l5 : Int32} {M : PM} (h : F_XModel_areFunctions_157 n rec7 rec33 l0 l1 l2 l3 l4 l5 M = some (zr Z, zf Z)) : EW Y_XModel_areFunctions g X Z 157 [(0, .ref l0), (1, .int l1), (2, .int l2), (3, .int l3), (4, .int l4), (5, .int l5)] [] M := by
  unfold F_XModel_areFunctions_157 at h
  refine ew_iconst (1) d_XModel_areFunctions_157 (by decide) ?_
  refine ew_goto 162 d_XModel_areFunctions_158 (by decide) ?_
  exact E_XModel_areFunctions_162 hn hl hrec7 hrec33 h
def F_XModel_areFunctions_93 (n : Nat) (rec7 : Nat → Int32 → Int32 → PM → qO) (rec33 : Nat → Int32 → Int32 → Int32 → Int32 → PM → qO) (l0 : Nat) (l1 : Int32) (l2 : Int32) (l3 : Int32) (l4 : Int32) (l5 : Int32) (s0 : Int32) (s1 : Int32) (M : PM) : qO :=
  if s0 = s1 then
    gR 0 M l0 22 (fun v2 =>
    gR 0 M l0 4 (fun v3 =>
    lI M v3 l3 (fun v4 =>
    lI M v2 v4 (fun v5 =>
    gR 0 M l0 22 (fun v6 =>
    gR 0 M l0 4 (fun v7 =>
    lI M v7 l5 (fun v8 =>
    lI M v6 v8 (fun v9 =>
    if v5 = v9 then
      gR 0 M l0 5 (fun v11 =>
      lI M v11 l3 (fun v12 =>
      if v12 < (0 : Int32) then
        F_XModel_areFunctions_157 n rec7 rec33 l0 l1 l2 l3 l4 l5 M
      else
        gR 0 M l0 22 (fun v14 =>
        gR 0 M l0 5 (fun v15 =>
        lI M v15 l3 (fun v16 =>
        lI M v14 v16 (fun v17 =>
        gR 0 M l0 22 (fun v18 =>
        gR 0 M l0 5 (fun v19 =>
        lI M v19 l5 (fun v20 =>
        lI M v18 v20 (fun v21 =>
        if v17 = v21 then
          F_XModel_areFunctions_157 n rec7 rec33 l0 l1 l2 l3 l4 l5 M
        else
          F_XModel_areFunctions_161 n rec7 rec33 l0 l1 l2 l3 l4 l5 M))))))))))
    else
      F_XModel_areFunctions_161 n rec7 rec33 l0 l1 l2 l3 l4 l5 M))))))))
  else
    F_XModel_areFunctions_161 n rec7 rec33 l0 l1 l2 l3 l4 l5 M
set_option maxHeartbeats 4000000 in
set_option maxRecDepth 100000 in
theorem E_XModel_areFunctions_93 {g : qG} {X : qX} {Z : qZ} (hn : 0 ≤ zn Z) (hl : 0 ≤ zl Z) {n : Nat} {rec7 : Nat → Int32 → Int32 → PM → qO} {rec33 : Nat → Int32 → Int32 → Int32 → Int32 → PM → qO} (hrec7 : ∀ (l0 : Nat) (l1 : Int32) (l2 : Int32) (M : PM), rec7 l0 l1 l2 M = some (zr Z, zf Z) → EW Y_XModel_areFunctions g X Z 7 [(0, .ref l0), (1, .int l1), (2, .int l2)] [] M) (hrec33 : ∀ (l0 : Nat) (l1 : Int32) (l2 : Int32) (l3 : Int32) (l4 : Int32) (M : PM), rec33 l0 l1 l2 l3 l4 M = some (zr Z, zf Z) → EW Y_XModel_areFunctions g X Z 33 [(0, .ref l0), (1, .int l1), (2, .int l2), (3, .int l3), (4, .int l4)] [] M) {l0 : Nat} {l1 : Int32} {l2 : Int32} {l3 : Int32} {l4 : Int32} {l5 : Int32} {s0 : Int32} {s1 : Int32} {M : PM} (h : F_XModel_areFunctions_93 n rec7 rec33 l0 l1 l2 l3 l4 l5 s0 s1 M = some (zr Z, zf Z)) : EW Y_XModel_areFunctions g X Z 93 [(0, .ref l0), (1, .int l1), (2, .int l2), (3, .int l3), (4, .int l4), (5, .int l5)] [.int s1, .int s0] M := by
  unfold F_XModel_areFunctions_93 at h
  refine ew_icmp_ne 161 d_XModel_areFunctions_93 (by decide) (fun c1 => ?_) (fun c1 => ?_)
  · rw [if_neg c1] at h
    exact E_XModel_areFunctions_161 hn hl hrec7 hrec33 h
  · rw [if_pos c1] at h
    refine ew_aload_n 0 d_XModel_areFunctions_96 rfl rfl ?_
    obtain ⟨v2, av2, bv2, h⟩ := gR_inv h
    refine ew_gR 0 22 d_XModel_areFunctions_97 fl_XModel_66 av2 bv2 ?_
    refine ew_aload_n 0 d_XModel_areFunctions_100 rfl rfl ?_
    obtain ⟨v3, av3, bv3, h⟩ := gR_inv h
    refine ew_gR 0 4 d_XModel_areFunctions_101 fl_XModel_17 av3 bv3 ?_
    refine ew_iload_n 3 d_XModel_areFunctions_104 rfl rfl ?_
    obtain ⟨v4, av4, bv4, cv4, ev4, h⟩ := lI_inv h
    refine ew_lI d_XModel_areFunctions_105 av4 bv4 cv4 ev4 ?_
    obtain ⟨v5, av5, bv5, cv5, ev5, h⟩ := lI_inv h
    refine ew_lI d_XModel_areFunctions_106 av5 bv5 cv5 ev5 ?_
    refine ew_aload_n 0 d_XModel_areFunctions_107 rfl rfl ?_
    obtain ⟨v6, av6, bv6, h⟩ := gR_inv h
    refine ew_gR 0 22 d_XModel_areFunctions_108 fl_XModel_66 av6 bv6 ?_
    refine ew_aload_n 0 d_XModel_areFunctions_111 rfl rfl ?_
    obtain ⟨v7, av7, bv7, h⟩ := gR_inv h
    refine ew_gR 0 4 d_XModel_areFunctions_112 fl_XModel_17 av7 bv7 ?_
    refine ew_iload d_XModel_areFunctions_115 rfl ?_
    obtain ⟨v8, av8, bv8, cv8, ev8, h⟩ := lI_inv h
    refine ew_lI d_XModel_areFunctions_117 av8 bv8 cv8 ev8 ?_
    obtain ⟨v9, av9, bv9, cv9, ev9, h⟩ := lI_inv h
    refine ew_lI d_XModel_areFunctions_118 av9 bv9 cv9 ev9 ?_
    refine ew_icmp_ne 161 d_XModel_areFunctions_119 (by decide) (fun c10 => ?_) (fun c10 => ?_)
    · rw [if_neg c10] at h
      exact E_XModel_areFunctions_161 hn hl hrec7 hrec33 h
    · rw [if_pos c10] at h
      refine ew_aload_n 0 d_XModel_areFunctions_122 rfl rfl ?_
      obtain ⟨v11, av11, bv11, h⟩ := gR_inv h
      refine ew_gR 0 5 d_XModel_areFunctions_123 fl_XModel_20 av11 bv11 ?_
      refine ew_iload_n 3 d_XModel_areFunctions_126 rfl rfl ?_
      obtain ⟨v12, av12, bv12, cv12, ev12, h⟩ := lI_inv h
      refine ew_lI d_XModel_areFunctions_127 av12 bv12 cv12 ev12 ?_
      refine ew_if_lt 157 d_XModel_areFunctions_128 (by decide) (fun c13 => ?_) (fun c13 => ?_)
      · rw [if_pos c13] at h
        exact E_XModel_areFunctions_157 hn hl hrec7 hrec33 h
      · rw [if_neg c13] at h
        refine ew_aload_n 0 d_XModel_areFunctions_131 rfl rfl ?_
        obtain ⟨v14, av14, bv14, h⟩ := gR_inv h
        refine ew_gR 0 22 d_XModel_areFunctions_132 fl_XModel_66 av14 bv14 ?_
        refine ew_aload_n 0 d_XModel_areFunctions_135 rfl rfl ?_
        obtain ⟨v15, av15, bv15, h⟩ := gR_inv h
        refine ew_gR 0 5 d_XModel_areFunctions_136 fl_XModel_20 av15 bv15 ?_
        refine ew_iload_n 3 d_XModel_areFunctions_139 rfl rfl ?_
        obtain ⟨v16, av16, bv16, cv16, ev16, h⟩ := lI_inv h
        refine ew_lI d_XModel_areFunctions_140 av16 bv16 cv16 ev16 ?_
        obtain ⟨v17, av17, bv17, cv17, ev17, h⟩ := lI_inv h
        refine ew_lI d_XModel_areFunctions_141 av17 bv17 cv17 ev17 ?_
        refine ew_aload_n 0 d_XModel_areFunctions_142 rfl rfl ?_
        obtain ⟨v18, av18, bv18, h⟩ := gR_inv h
        refine ew_gR 0 22 d_XModel_areFunctions_143 fl_XModel_66 av18 bv18 ?_
        refine ew_aload_n 0 d_XModel_areFunctions_146 rfl rfl ?_
        obtain ⟨v19, av19, bv19, h⟩ := gR_inv h
        refine ew_gR 0 5 d_XModel_areFunctions_147 fl_XModel_20 av19 bv19 ?_
        refine ew_iload d_XModel_areFunctions_150 rfl ?_
        obtain ⟨v20, av20, bv20, cv20, ev20, h⟩ := lI_inv h
        refine ew_lI d_XModel_areFunctions_152 av20 bv20 cv20 ev20 ?_
        obtain ⟨v21, av21, bv21, cv21, ev21, h⟩ := lI_inv h
        refine ew_lI d_XModel_areFunctions_153 av21 bv21 cv21 ev21 ?_
        refine ew_icmp_ne 161 d_XModel_areFunctions_154 (by decide) (fun c22 => ?_) (fun c22 => ?_)
        · rw [if_neg c22] at h
          exact E_XModel_areFunctions_161 hn hl hrec7 hrec33 h
        · rw [if_pos c22] at h
          exact E_XModel_areFunctions_157 hn hl hrec7 hrec33 h
def F_XModel_areFunctions_78 (n : Nat) (rec7 : Nat → Int32 → Int32 → PM → qO) (rec33 : Nat → Int32 → Int32 → Int32 → Int32 → PM → qO) (l0 : Nat) (l1 : Int32) (l2 : Int32) (l3 : Int32) (l4 : Int32) (l5 : Int32) (s0 : Int32) (M : PM) : qO :=
  gR 0 M l0 5 (fun v1 =>
  lI M v1 l5 (fun v2 =>
  if (0 : Int32) ≤ v2 then
    F_XModel_areFunctions_93 n rec7 rec33 l0 l1 l2 l3 l4 l5 s0 (0 : Int32) M
  else
    F_XModel_areFunctions_93 n rec7 rec33 l0 l1 l2 l3 l4 l5 s0 (1 : Int32) M))
set_option maxHeartbeats 4000000 in
set_option maxRecDepth 100000 in
theorem E_XModel_areFunctions_78 {g : qG} {X : qX} {Z : qZ} (hn : 0 ≤ zn Z) (hl : 0 ≤ zl Z) {n : Nat} {rec7 : Nat → Int32 → Int32 → PM → qO} {rec33 : Nat → Int32 → Int32 → Int32 → Int32 → PM → qO} (hrec7 : ∀ (l0 : Nat) (l1 : Int32) (l2 : Int32) (M : PM), rec7 l0 l1 l2 M = some (zr Z, zf Z) → EW Y_XModel_areFunctions g X Z 7 [(0, .ref l0), (1, .int l1), (2, .int l2)] [] M) (hrec33 : ∀ (l0 : Nat) (l1 : Int32) (l2 : Int32) (l3 : Int32) (l4 : Int32) (M : PM), rec33 l0 l1 l2 l3 l4 M = some (zr Z, zf Z) → EW Y_XModel_areFunctions g X Z 33 [(0, .ref l0), (1, .int l1), (2, .int l2), (3, .int l3), (4, .int l4)] [] M) {l0 : Nat} {l1 : Int32} {l2 : Int32} {l3 : Int32} {l4 : Int32} {l5 : Int32} {s0 : Int32} {M : PM} (h : F_XModel_areFunctions_78 n rec7 rec33 l0 l1 l2 l3 l4 l5 s0 M = some (zr Z, zf Z)) : EW Y_XModel_areFunctions g X Z 78 [(0, .ref l0), (1, .int l1), (2, .int l2), (3, .int l3), (4, .int l4), (5, .int l5)] [.int s0] M := by
  unfold F_XModel_areFunctions_78 at h
  refine ew_aload_n 0 d_XModel_areFunctions_78 rfl rfl ?_
  obtain ⟨v1, av1, bv1, h⟩ := gR_inv h
  refine ew_gR 0 5 d_XModel_areFunctions_79 fl_XModel_20 av1 bv1 ?_
  refine ew_iload d_XModel_areFunctions_82 rfl ?_
  obtain ⟨v2, av2, bv2, cv2, ev2, h⟩ := lI_inv h
  refine ew_lI d_XModel_areFunctions_84 av2 bv2 cv2 ev2 ?_
  refine ew_if_ge 92 d_XModel_areFunctions_85 (by decide) (fun c3 => ?_) (fun c3 => ?_)
  · rw [if_pos c3] at h
    refine ew_iconst (0) d_XModel_areFunctions_92 (by decide) ?_
    exact E_XModel_areFunctions_93 hn hl hrec7 hrec33 h
  · rw [if_neg c3] at h
    refine ew_iconst (1) d_XModel_areFunctions_88 (by decide) ?_
    refine ew_goto 93 d_XModel_areFunctions_89 (by decide) ?_
    exact E_XModel_areFunctions_93 hn hl hrec7 hrec33 h
def F_XModel_areFunctions_33 (n : Nat) (rec7 : Nat → Int32 → Int32 → PM → qO) : Nat → Nat → Int32 → Int32 → Int32 → Int32 → PM → qO
  | 0, _, _, _, _, _, _ => none
  | f + 1, l0, l1, l2, l3, l4, M =>
    if l2 ≤ l4 then
      bI (l2 + (1 : Int32)) (fun v2 =>
      rec7 l0 l1 v2 M)
    else
      gR 0 M l0 26 (fun v3 =>
      lI M v3 l4 (fun v4 =>
      gR 0 M l0 6 (fun v5 =>
      lI M v5 l3 (fun v6 =>
      gR 0 M l0 6 (fun v7 =>
      lI M v7 v4 (fun v8 =>
      if v6 = v8 then
        gR 0 M l0 5 (fun v10 =>
        lI M v10 l3 (fun v11 =>
        if (0 : Int32) ≤ v11 then
          F_XModel_areFunctions_78 n rec7 (F_XModel_areFunctions_33 n rec7 f) l0 l1 l2 l3 l4 v4 (0 : Int32) M
        else
          F_XModel_areFunctions_78 n rec7 (F_XModel_areFunctions_33 n rec7 f) l0 l1 l2 l3 l4 v4 (1 : Int32) M))
      else
        F_XModel_areFunctions_161 n rec7 (F_XModel_areFunctions_33 n rec7 f) l0 l1 l2 l3 l4 v4 M))))))
set_option maxHeartbeats 4000000 in
set_option maxRecDepth 100000 in
theorem E_XModel_areFunctions_33 {g : qG} {X : qX} {Z : qZ} (hn : 0 ≤ zn Z) (hl : 0 ≤ zl Z) {n : Nat} {rec7 : Nat → Int32 → Int32 → PM → qO} (hrec7 : ∀ (l0 : Nat) (l1 : Int32) (l2 : Int32) (M : PM), rec7 l0 l1 l2 M = some (zr Z, zf Z) → EW Y_XModel_areFunctions g X Z 7 [(0, .ref l0), (1, .int l1), (2, .int l2)] [] M) : ∀ (f : Nat) (l0 : Nat) (l1 : Int32) (l2 : Int32) (l3 : Int32) (l4 : Int32) (M : PM), F_XModel_areFunctions_33 n rec7 f l0 l1 l2 l3 l4 M = some (zr Z, zf Z) → EW Y_XModel_areFunctions g X Z 33 [(0, .ref l0), (1, .int l1), (2, .int l2), (3, .int l3), (4, .int l4)] [] M := by
  intro f
  induction f with
  | zero => intro l0 l1 l2 l3 l4 M h; rw [F_XModel_areFunctions_33] at h; cases h
  | succ f ih =>
    intro l0 l1 l2 l3 l4 M h
    rw [F_XModel_areFunctions_33] at h
    refine ew_iload d_XModel_areFunctions_33 rfl ?_
    refine ew_iload_n 2 d_XModel_areFunctions_35 rfl rfl ?_
    refine ew_icmp_ge 201 d_XModel_areFunctions_36 (by decide) (fun c1 => ?_) (fun c1 => ?_)
    · rw [if_pos c1] at h
      obtain ⟨v2, ev2, h⟩ := bI_inv h
      refine ew_iinc (L' := [(0, .ref l0), (1, .int l1), (2, .int v2), (3, .int l3), (4, .int l4)]) v2 [1, 2, 0, 3, 4] d_XModel_areFunctions_201 rfl (by rw [ev2]; rfl) (by decide) rfl ?_
      refine ew_goto 7 d_XModel_areFunctions_204 (by decide) ?_
      exact ew_pick (L' := [(0, .ref l0), (1, .int l1), (2, .int v2)]) [0, 1, 2] rfl (hrec7 l0 l1 v2 M h)
    · rw [if_neg c1] at h
      refine ew_aload_n 0 d_XModel_areFunctions_39 rfl rfl ?_
      obtain ⟨v3, av3, bv3, h⟩ := gR_inv h
      refine ew_gR 0 26 d_XModel_areFunctions_40 fl_XModel_69 av3 bv3 ?_
      refine ew_iload d_XModel_areFunctions_43 rfl ?_
      obtain ⟨v4, av4, bv4, cv4, ev4, h⟩ := lI_inv h
      refine ew_lI d_XModel_areFunctions_45 av4 bv4 cv4 ev4 ?_
      refine ew_istore (L' := [(0, .ref l0), (1, .int l1), (2, .int l2), (3, .int l3), (4, .int l4), (5, .int v4)]) [1, 2, 3, 4, 5, 0] d_XModel_areFunctions_46 (by decide) rfl ?_
      refine ew_aload_n 0 d_XModel_areFunctions_48 rfl rfl ?_
      obtain ⟨v5, av5, bv5, h⟩ := gR_inv h
      refine ew_gR 0 6 d_XModel_areFunctions_49 fl_XModel_23 av5 bv5 ?_
      refine ew_iload_n 3 d_XModel_areFunctions_52 rfl rfl ?_
      obtain ⟨v6, av6, bv6, cv6, ev6, h⟩ := lI_inv h
      refine ew_lI d_XModel_areFunctions_53 av6 bv6 cv6 ev6 ?_
      refine ew_aload_n 0 d_XModel_areFunctions_54 rfl rfl ?_
      obtain ⟨v7, av7, bv7, h⟩ := gR_inv h
      refine ew_gR 0 6 d_XModel_areFunctions_55 fl_XModel_23 av7 bv7 ?_
      refine ew_iload d_XModel_areFunctions_58 rfl ?_
      obtain ⟨v8, av8, bv8, cv8, ev8, h⟩ := lI_inv h
      refine ew_lI d_XModel_areFunctions_60 av8 bv8 cv8 ev8 ?_
      refine ew_icmp_ne 161 d_XModel_areFunctions_61 (by decide) (fun c9 => ?_) (fun c9 => ?_)
      · rw [if_neg c9] at h
        exact E_XModel_areFunctions_161 hn hl hrec7 ih h
      · rw [if_pos c9] at h
        refine ew_aload_n 0 d_XModel_areFunctions_64 rfl rfl ?_
        obtain ⟨v10, av10, bv10, h⟩ := gR_inv h
        refine ew_gR 0 5 d_XModel_areFunctions_65 fl_XModel_20 av10 bv10 ?_
        refine ew_iload_n 3 d_XModel_areFunctions_68 rfl rfl ?_
        obtain ⟨v11, av11, bv11, cv11, ev11, h⟩ := lI_inv h
        refine ew_lI d_XModel_areFunctions_69 av11 bv11 cv11 ev11 ?_
        refine ew_if_ge 77 d_XModel_areFunctions_70 (by decide) (fun c12 => ?_) (fun c12 => ?_)
        · rw [if_pos c12] at h
          refine ew_iconst (0) d_XModel_areFunctions_77 (by decide) ?_
          exact E_XModel_areFunctions_78 hn hl hrec7 ih h
        · rw [if_neg c12] at h
          refine ew_iconst (1) d_XModel_areFunctions_73 (by decide) ?_
          refine ew_goto 78 d_XModel_areFunctions_74 (by decide) ?_
          exact E_XModel_areFunctions_78 hn hl hrec7 ih h
def F_XModel_areFunctions_7 (n : Nat) : Nat → Nat → Int32 → Int32 → PM → qO
  | 0, _, _, _, _ => none
  | f + 1, l0, l1, l2, M =>
    gI 0 M l0 23 (fun v1 =>
    gI 0 M l0 24 (fun v2 =>
    if (v1 + v2) ≤ l2 then
      rZ l1 M
    else
      gR 0 M l0 26 (fun v4 =>
      lI M v4 l2 (fun v5 =>
      gI 0 M l0 23 (fun v6 =>
      F_XModel_areFunctions_33 n (F_XModel_areFunctions_7 n f) n l0 l1 l2 v5 v6 M)))))
set_option maxHeartbeats 4000000 in
set_option maxRecDepth 100000 in
theorem E_XModel_areFunctions_7 {g : qG} {X : qX} {Z : qZ} (hn : 0 ≤ zn Z) (hl : 0 ≤ zl Z) {n : Nat} : ∀ (f : Nat) (l0 : Nat) (l1 : Int32) (l2 : Int32) (M : PM), F_XModel_areFunctions_7 n f l0 l1 l2 M = some (zr Z, zf Z) → EW Y_XModel_areFunctions g X Z 7 [(0, .ref l0), (1, .int l1), (2, .int l2)] [] M := by
  intro f
  induction f with
  | zero => intro l0 l1 l2 M h; rw [F_XModel_areFunctions_7] at h; cases h
  | succ f ih =>
    intro l0 l1 l2 M h
    rw [F_XModel_areFunctions_7] at h
    refine ew_iload_n 2 d_XModel_areFunctions_7 rfl rfl ?_
    refine ew_aload_n 0 d_XModel_areFunctions_8 rfl rfl ?_
    obtain ⟨v1, av1, bv1, h⟩ := gI_inv h
    refine ew_gI 0 23 d_XModel_areFunctions_9 fl_XModel_164 av1 bv1 ?_
    refine ew_aload_n 0 d_XModel_areFunctions_12 rfl rfl ?_
    obtain ⟨v2, av2, bv2, h⟩ := gI_inv h
    refine ew_gI 0 24 d_XModel_areFunctions_13 fl_XModel_176 av2 bv2 ?_
    refine ew_iadd d_XModel_areFunctions_16 ?_
    refine ew_icmp_ge 207 d_XModel_areFunctions_17 (by decide) (fun c3 => ?_) (fun c3 => ?_)
    · rw [if_pos c3] at h
      refine ew_iload_n 1 d_XModel_areFunctions_207 rfl rfl ?_
      obtain ⟨hb, h⟩ := rZ_inv h
      obtain ⟨hz, hm⟩ := Prod.mk.inj (Option.some.inj h)
      exact ew_zreturn d_XModel_areFunctions_208 rfl hz.symm hm.symm hb
    · rw [if_neg c3] at h
      refine ew_aload_n 0 d_XModel_areFunctions_20 rfl rfl ?_
      obtain ⟨v4, av4, bv4, h⟩ := gR_inv h
      refine ew_gR 0 26 d_XModel_areFunctions_21 fl_XModel_69 av4 bv4 ?_
      refine ew_iload_n 2 d_XModel_areFunctions_24 rfl rfl ?_
      obtain ⟨v5, av5, bv5, cv5, ev5, h⟩ := lI_inv h
      refine ew_lI d_XModel_areFunctions_25 av5 bv5 cv5 ev5 ?_
      refine ew_istore_n (L' := [(0, .ref l0), (1, .int l1), (2, .int l2), (3, .int v5)]) 3 [1, 2, 3, 0] d_XModel_areFunctions_26 rfl (by decide) rfl ?_
      refine ew_aload_n 0 d_XModel_areFunctions_27 rfl rfl ?_
      obtain ⟨v6, av6, bv6, h⟩ := gI_inv h
      refine ew_gI 0 23 d_XModel_areFunctions_28 fl_XModel_164 av6 bv6 ?_
      refine ew_istore (L' := [(0, .ref l0), (1, .int l1), (2, .int l2), (3, .int v5), (4, .int v6)]) [1, 2, 3, 4, 0] d_XModel_areFunctions_31 (by decide) rfl ?_
      exact E_XModel_areFunctions_33 hn hl ih n l0 l1 l2 v5 v6 M h
def F_XModel_areFunctions (n : Nat) (l0 : Nat) (M : PM) : qO :=
  gI 0 M l0 23 (fun v1 =>
  F_XModel_areFunctions_7 n n l0 (1 : Int32) v1 M)
set_option maxHeartbeats 4000000 in
set_option maxRecDepth 100000 in
theorem E_XModel_areFunctions {g : qG} {X : qX} {Z : qZ} (hn : 0 ≤ zn Z) (hl : 0 ≤ zl Z) {n : Nat} {l0 : Nat} {M : PM} (h : F_XModel_areFunctions n l0 M = some (zr Z, zf Z)) : EW Y_XModel_areFunctions g X Z 0 [(0, .ref l0)] [] M := by
  unfold F_XModel_areFunctions at h
  refine ew_iconst (1) d_XModel_areFunctions_0 (by decide) ?_
  refine ew_istore_n (L' := [(0, .ref l0), (1, .int (1 : Int32))]) 1 [1, 0] d_XModel_areFunctions_1 rfl (by decide) rfl ?_
  refine ew_aload_n 0 d_XModel_areFunctions_2 rfl rfl ?_
  obtain ⟨v1, av1, bv1, h⟩ := gI_inv h
  refine ew_gI 0 23 d_XModel_areFunctions_3 fl_XModel_164 av1 bv1 ?_
  refine ew_istore_n (L' := [(0, .ref l0), (1, .int (1 : Int32)), (2, .int v1)]) 2 [1, 2, 0] d_XModel_areFunctions_6 rfl (by decide) rfl ?_
  exact E_XModel_areFunctions_7 hn hl n l0 (1 : Int32) v1 M h
theorem T_XModel_areFunctions {n : Nat} {l0 : Nat} {M Mf : PM} {res : qRs} (h : F_XModel_areFunctions n l0 M = some (res, Mf)) : CT Y_XModel_areFunctions 0 0 [.ref l0] M res Mf :=
  CT_of (by decide) (Nat.le_of_ble_eq_true rfl) (qHd_ne (by decide)) (fun g X ad0 => E_XModel_areFunctions (g := g) (X := X) (Z := (ad0, M, res, Mf, 0, 0)) (Nat.le_refl _) (Nat.le_refl _) h)
