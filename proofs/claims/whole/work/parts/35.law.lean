/-! THE LAW: its cases, its loop, its start (by program) -/
section GLAW
variable {E : gE} {base : Nat} {p : Program} {l : Launch} {e : Env} {s : State} {m : MethodId} {args : Array Value} {below : List Frame} {meth : Method} {c : Code} {Q : State → Prop} {sa : Nat → Nat} {b Ln : Nat} {xs : Nat → Int32}
def g_sx (Ln : Nat) (xs : Nat → Int32) (x : Int32) : Option Int32 := if x < 0 ∨ Ln ≤ x.toNatClampNeg then none else some (xs x.toNatClampNeg)
theorem r_sld {nL : Nat} {R : Room} {cells slots : Nat} {cc : ByteArray} {own : String} {L : gL} {V : gV} {pc : Nat} {lv : List (Nat × gT)} {st : List gT} (C : gC E base p s m args meth c cc own nL) (hX : va_X b Ln xs s s.heap) (hbb : b < base ∧ base = s.heap.size) (hd : decode cc pc = .ok (.iaload, 1)) {x y : Int32} (h : g_sx Ln xs x = some y) (kk : vW E base base nL p l e R s m args below meth c cells slots Q L V (pc + 1) lv (tI y :: st)) : vW E base base nL p l e R s m args below meth c cells slots Q L V pc lv (tI x :: tR (some b) :: st) := by
  intro H locs ls h1 h2 h3
  obtain ⟨hx, hb, hml, hown, hts, hK, hbs, hlk⟩ := C
  unfold g_sx at h
  by_cases hin : x < 0 ∨ Ln ≤ x.toNatClampNeg
  · rw [if_pos hin] at h; cases h
  · rw [if_neg hin] at h
    have hy : xs x.toNatClampNeg = y := Option.some.inj h
    refine va_sld hx hb hX (by rw [← hbb.2]; exact hbb.1) (Nat.not_le.mpr hbb.1) h2 hin hd ?_
    rw [hy]
    exact kk H locs ls h1 h2 h3
theorem r_slen {nL : Nat} {R : Room} {cells slots : Nat} {cc : ByteArray} {own : String} {L : gL} {V : gV} {pc : Nat} {lv : List (Nat × gT)} {st : List gT} (C : gC E base p s m args meth c cc own nL) (hX : va_X b Ln xs s s.heap) (hbb : b < base ∧ base = s.heap.size) (hd : decode cc pc = .ok (.arraylength, 1)) (kk : vW E base base nL p l e R s m args below meth c cells slots Q L V (pc + 1) lv (tI (nI Ln) :: st)) : vW E base base nL p l e R s m args below meth c cells slots Q L V pc lv (tR (some b) :: st) := by
  intro H locs ls h1 h2 h3
  obtain ⟨hx, hb, hml, hown, hts, hK, hbs, hlk⟩ := C
  exact va_slen hx hb hX (by rw [← hbb.2]; exact hbb.1) (Nat.not_le.mpr hbb.1) h2 hd (kk H locs ls h1 h2 h3)
def D_L0 (Ln : Nat) (xs : Nat → Int32) (v1 v2 v3 : Nat) (v4 : Int32) (K : gL → gV → Option Unit) (L : gL) (V : gV) : Option Unit :=
  Option.bind (g_sx Ln xs (v4 + (1 : Int32))) fun x1 =>
    Option.bind (g_sx Ln xs (v4 + (2 : Int32))) fun x2 =>
    Option.bind ((L).2 3 v1) fun n12 =>
    g_b3 (D_A_file v1 ((x1.toInt64 <<< ((32 : Int32).toInt64 &&& 63)) ||| (x2.toInt64 &&& (4294967295 : Int64))) L V) fun r3 L5 V4 =>
    Option.bind (g_sx Ln xs (v4 + (1 : Int32))) fun x6 =>
    Option.bind (g_sx Ln xs (v4 + (2 : Int32))) fun x7 =>
    Option.bind ((L5).2 4 v2) fun n11 =>
    g_b2 (D_M_file v2 ((x6.toInt64 <<< ((32 : Int32).toInt64 &&& 63)) ||| (x7.toInt64 &&& (4294967295 : Int64))) L5 V4) fun r8 V9 =>
    (if r3 = r8 then
    K L5 V9
  else
    none)
set_option maxHeartbeats 4000000 in
set_option maxRecDepth 100000 in
theorem t_L0 (C : gC E base p s m args meth c b_W_law R_W 8) (hX : va_X b Ln xs s s.heap) (hbb : b < base ∧ base = s.heap.size) (hfl : l.flags = flags0) (hT : g_T sa base s) {v1 v2 v3 : Nat} {v4 : Int32} {cells slots : Nat} (hcl : cells + 16 ≤ 601024) (hsl : slots + 100 ≤ 7293034) {K : gL → gV → Option Unit} (hK : ∀ (L : gL) (V : gV), K L V = some () → vW E base base 8 p l e room_1 s m args below meth c (cells + 16) (slots + 100) Q L V 859 [(0, tR (some b)), (1, tR (some v1)), (2, tR (some v2)), (3, tR (some v3)), (4, tI v4)] []) (L : gL) (V : gV) (h : D_L0 Ln xs v1 v2 v3 v4 K L V = some ()) : vW E base base 8 p l e room_1 s m args below meth c cells slots Q L V 120 [(0, tR (some b)), (1, tR (some v1)), (2, tR (some v2)), (3, tR (some v3)), (4, tI v4)] [] := by
  unfold D_L0 at h
  refine r_aload_n (x := (some v1)) C d_W_law_120 rfl rfl ?_
  refine r_aload_n (x := (some b)) C d_W_law_121 rfl rfl ?_
  refine r_iload (x := v4) C d_W_law_122 rfl ?_
  refine r_iconst C (1 : Int32) d_W_law_124 (by decide) ?_
  refine r_iadd C d_W_law_125 ?_
  replace h := g_ob h; obtain ⟨x1, e_x1, h⟩ := h
  refine r_sld C hX hbb d_W_law_126 e_x1 ?_
  refine r_i2l C d_W_law_127 ?_
  refine r_bipush C (32 : Int32) d_W_law_128 (by decide) ?_
  refine r_lshl C d_W_law_130 ?_
  refine r_aload_n (x := (some b)) C d_W_law_131 rfl rfl ?_
  refine r_iload (x := v4) C d_W_law_132 rfl ?_
  refine r_iconst C (2 : Int32) d_W_law_134 (by decide) ?_
  refine r_iadd C d_W_law_135 ?_
  replace h := g_ob h; obtain ⟨x2, e_x2, h⟩ := h
  refine r_sld C hX hbb d_W_law_136 e_x2 ?_
  refine r_i2l C d_W_law_137 ?_
  refine r_ldc2 C (4294967295 : Int64) d_W_law_138 w_357 ?_
  refine r_land C d_W_law_141 ?_
  refine r_lor C d_W_law_142 ?_
  replace h := g_ob h; obtain ⟨n12, e_n12, h⟩ := h
  replace h := g_o3 h; obtain ⟨r3, L5, V4, e_r3, h⟩ := h
  refine r_callV (As := [tJ ((x1.toInt64 <<< ((32 : Int32).toInt64 &&& 63)) ||| (x2.toInt64 &&& (4294967295 : Int64)))]) C k_W_29 w_364 w_365 w_358 ⟨_, _, rfl⟩ (c_A_file l E base v1 ((x1.toInt64 <<< ((32 : Int32).toInt64 &&& 63)) ||| (x2.toInt64 &&& (4294967295 : Int64))) L V e_r3) d_W_law_143 e_n12 rfl ⟨Nat.le_of_ble_eq_true rfl, Nat.le_of_ble_eq_true rfl⟩ (Nat.le_of_ble_eq_true rfl) (show cells + 1 ≤ 601024 by omega) (show slots + 3 ≤ 7293034 by omega) rfl ?_
  refine r_aload_n (x := (some v2)) C d_W_law_146 rfl rfl ?_
  refine r_aload_n (x := (some b)) C d_W_law_147 rfl rfl ?_
  refine r_iload (x := v4) C d_W_law_148 rfl ?_
  refine r_iconst C (1 : Int32) d_W_law_150 (by decide) ?_
  refine r_iadd C d_W_law_151 ?_
  replace h := g_ob h; obtain ⟨x6, e_x6, h⟩ := h
  refine r_sld C hX hbb d_W_law_152 e_x6 ?_
  refine r_i2l C d_W_law_153 ?_
  refine r_bipush C (32 : Int32) d_W_law_154 (by decide) ?_
  refine r_lshl C d_W_law_156 ?_
  refine r_aload_n (x := (some b)) C d_W_law_157 rfl rfl ?_
  refine r_iload (x := v4) C d_W_law_158 rfl ?_
  refine r_iconst C (2 : Int32) d_W_law_160 (by decide) ?_
  refine r_iadd C d_W_law_161 ?_
  replace h := g_ob h; obtain ⟨x7, e_x7, h⟩ := h
  refine r_sld C hX hbb d_W_law_162 e_x7 ?_
  refine r_i2l C d_W_law_163 ?_
  refine r_ldc2 C (4294967295 : Int64) d_W_law_164 w_357 ?_
  refine r_land C d_W_law_167 ?_
  refine r_lor C d_W_law_168 ?_
  replace h := g_ob h; obtain ⟨n11, e_n11, h⟩ := h
  replace h := g_o2 h; obtain ⟨r8, V9, e_r8, h⟩ := h
  refine r_callV (As := [tJ ((x6.toInt64 <<< ((32 : Int32).toInt64 &&& 63)) ||| (x7.toInt64 &&& (4294967295 : Int64)))]) C k_W_33 w_362 w_363 w_360 ⟨_, _, rfl⟩ (c_M_file l E base v2 ((x6.toInt64 <<< ((32 : Int32).toInt64 &&& 63)) ||| (x7.toInt64 &&& (4294967295 : Int64))) L5 V4 e_r8) d_W_law_169 e_n11 rfl ⟨Nat.le_of_ble_eq_true rfl, Nat.le_of_ble_eq_true rfl⟩ (Nat.le_of_ble_eq_true rfl) (show cells + 1 ≤ 601024 by omega) (show slots + 3 ≤ 7293034 by omega) rfl ?_
  refine r_icmp_eq C 859 d_W_law_172 (by decide) (fun c10 => ?_) (fun c10 => ?_)
  · rw [if_pos c10] at h
    refine r_wid (k := cells + 16) (n := slots + 100) (show cells + 1 ≤ cells + 16 by omega) (show slots + 3 ≤ slots + 100 by omega) ?_
    exact hK L5 V9 h
  · rw [if_neg c10] at h
    refine r_iconst C (0 : Int32) d_W_law_175 (by decide) ?_
    cases h
def D_L1 (Ln : Nat) (xs : Nat → Int32) (v1 v2 v3 : Nat) (v4 : Int32) (K : gL → gV → Option Unit) (L : gL) (V : gV) : Option Unit :=
  Option.bind (g_sx Ln xs (v4 + (1 : Int32))) fun x1 =>
    Option.bind (g_sx Ln xs (v4 + (2 : Int32))) fun x2 =>
    (if x2 = 0 then
    Option.bind (g_sx Ln xs (v4 + (3 : Int32))) fun x3 =>
    Option.bind (g_sx Ln xs (v4 + (4 : Int32))) fun x4 =>
    Option.bind ((L).2 3 v1) fun n22 =>
    g_b2 (D_A_set v1 x1 (0 : Int32) ((x3.toInt64 <<< ((32 : Int32).toInt64 &&& 63)) ||| (x4.toInt64 &&& (4294967295 : Int64))) L V) fun r5 V6 =>
    Option.bind (g_sx Ln xs (v4 + (1 : Int32))) fun x7 =>
    Option.bind (g_sx Ln xs (v4 + (2 : Int32))) fun x8 =>
    (if x8 = 0 then
    Option.bind (g_sx Ln xs (v4 + (3 : Int32))) fun x9 =>
    Option.bind (g_sx Ln xs (v4 + (4 : Int32))) fun x10 =>
    Option.bind ((L).2 4 v2) fun n14 =>
    g_b2 (D_M_set v2 x7 (0 : Int32) ((x9.toInt64 <<< ((32 : Int32).toInt64 &&& 63)) ||| (x10.toInt64 &&& (4294967295 : Int64))) L V6) fun r11 V12 =>
    (if r5 = r11 then
    K L V12
  else
    none)
  else
    Option.bind (g_sx Ln xs (v4 + (3 : Int32))) fun x15 =>
    Option.bind (g_sx Ln xs (v4 + (4 : Int32))) fun x16 =>
    Option.bind ((L).2 4 v2) fun n20 =>
    g_b2 (D_M_set v2 x7 (1 : Int32) ((x15.toInt64 <<< ((32 : Int32).toInt64 &&& 63)) ||| (x16.toInt64 &&& (4294967295 : Int64))) L V6) fun r17 V18 =>
    (if r5 = r17 then
    K L V18
  else
    none))
  else
    Option.bind (g_sx Ln xs (v4 + (3 : Int32))) fun x23 =>
    Option.bind (g_sx Ln xs (v4 + (4 : Int32))) fun x24 =>
    Option.bind ((L).2 3 v1) fun n42 =>
    g_b2 (D_A_set v1 x1 (1 : Int32) ((x23.toInt64 <<< ((32 : Int32).toInt64 &&& 63)) ||| (x24.toInt64 &&& (4294967295 : Int64))) L V) fun r25 V26 =>
    Option.bind (g_sx Ln xs (v4 + (1 : Int32))) fun x27 =>
    Option.bind (g_sx Ln xs (v4 + (2 : Int32))) fun x28 =>
    (if x28 = 0 then
    Option.bind (g_sx Ln xs (v4 + (3 : Int32))) fun x29 =>
    Option.bind (g_sx Ln xs (v4 + (4 : Int32))) fun x30 =>
    Option.bind ((L).2 4 v2) fun n34 =>
    g_b2 (D_M_set v2 x27 (0 : Int32) ((x29.toInt64 <<< ((32 : Int32).toInt64 &&& 63)) ||| (x30.toInt64 &&& (4294967295 : Int64))) L V26) fun r31 V32 =>
    (if r25 = r31 then
    K L V32
  else
    none)
  else
    Option.bind (g_sx Ln xs (v4 + (3 : Int32))) fun x35 =>
    Option.bind (g_sx Ln xs (v4 + (4 : Int32))) fun x36 =>
    Option.bind ((L).2 4 v2) fun n40 =>
    g_b2 (D_M_set v2 x27 (1 : Int32) ((x35.toInt64 <<< ((32 : Int32).toInt64 &&& 63)) ||| (x36.toInt64 &&& (4294967295 : Int64))) L V26) fun r37 V38 =>
    (if r25 = r37 then
    K L V38
  else
    none)))
set_option maxHeartbeats 4000000 in
set_option maxRecDepth 100000 in
theorem t_L1 (C : gC E base p s m args meth c b_W_law R_W 8) (hX : va_X b Ln xs s s.heap) (hbb : b < base ∧ base = s.heap.size) (hfl : l.flags = flags0) (hT : g_T sa base s) {v1 v2 v3 : Nat} {v4 : Int32} {cells slots : Nat} (hcl : cells + 16 ≤ 601024) (hsl : slots + 100 ≤ 7293034) {K : gL → gV → Option Unit} (hK : ∀ (L : gL) (V : gV), K L V = some () → vW E base base 8 p l e room_1 s m args below meth c (cells + 16) (slots + 100) Q L V 859 [(0, tR (some b)), (1, tR (some v1)), (2, tR (some v2)), (3, tR (some v3)), (4, tI v4)] []) (L : gL) (V : gV) (h : D_L1 Ln xs v1 v2 v3 v4 K L V = some ()) : vW E base base 8 p l e room_1 s m args below meth c cells slots Q L V 177 [(0, tR (some b)), (1, tR (some v1)), (2, tR (some v2)), (3, tR (some v3)), (4, tI v4)] [] := by
  unfold D_L1 at h
  refine r_aload_n (x := (some v1)) C d_W_law_177 rfl rfl ?_
  refine r_aload_n (x := (some b)) C d_W_law_178 rfl rfl ?_
  refine r_iload (x := v4) C d_W_law_179 rfl ?_
  refine r_iconst C (1 : Int32) d_W_law_181 (by decide) ?_
  refine r_iadd C d_W_law_182 ?_
  replace h := g_ob h; obtain ⟨x1, e_x1, h⟩ := h
  refine r_sld C hX hbb d_W_law_183 e_x1 ?_
  refine r_aload_n (x := (some b)) C d_W_law_184 rfl rfl ?_
  refine r_iload (x := v4) C d_W_law_185 rfl ?_
  refine r_iconst C (2 : Int32) d_W_law_187 (by decide) ?_
  refine r_iadd C d_W_law_188 ?_
  replace h := g_ob h; obtain ⟨x2, e_x2, h⟩ := h
  refine r_sld C hX hbb d_W_law_189 e_x2 ?_
  refine r_if_eq C 197 d_W_law_190 (by decide) (fun c43 => ?_) (fun c43 => ?_)
  · rw [if_pos c43] at h
    refine r_iconst C (0 : Int32) d_W_law_197 (by decide) ?_
    refine r_aload_n (x := (some b)) C d_W_law_198 rfl rfl ?_
    refine r_iload (x := v4) C d_W_law_199 rfl ?_
    refine r_iconst C (3 : Int32) d_W_law_201 (by decide) ?_
    refine r_iadd C d_W_law_202 ?_
    replace h := g_ob h; obtain ⟨x3, e_x3, h⟩ := h
    refine r_sld C hX hbb d_W_law_203 e_x3 ?_
    refine r_i2l C d_W_law_204 ?_
    refine r_bipush C (32 : Int32) d_W_law_205 (by decide) ?_
    refine r_lshl C d_W_law_207 ?_
    refine r_aload_n (x := (some b)) C d_W_law_208 rfl rfl ?_
    refine r_iload (x := v4) C d_W_law_209 rfl ?_
    refine r_iconst C (4 : Int32) d_W_law_211 (by decide) ?_
    refine r_iadd C d_W_law_212 ?_
    replace h := g_ob h; obtain ⟨x4, e_x4, h⟩ := h
    refine r_sld C hX hbb d_W_law_213 e_x4 ?_
    refine r_i2l C d_W_law_214 ?_
    refine r_ldc2 C (4294967295 : Int64) d_W_law_215 w_357 ?_
    refine r_land C d_W_law_218 ?_
    refine r_lor C d_W_law_219 ?_
    replace h := g_ob h; obtain ⟨n22, e_n22, h⟩ := h
    replace h := g_o2 h; obtain ⟨r5, V6, e_r5, h⟩ := h
    refine r_callV (As := [tI x1, tI (0 : Int32), tJ ((x3.toInt64 <<< ((32 : Int32).toInt64 &&& 63)) ||| (x4.toInt64 &&& (4294967295 : Int64)))]) C k_W_34 w_372 w_373 w_366 ⟨_, _, rfl⟩ (c_A_set l E base v1 x1 (0 : Int32) ((x3.toInt64 <<< ((32 : Int32).toInt64 &&& 63)) ||| (x4.toInt64 &&& (4294967295 : Int64))) L V e_r5) d_W_law_220 e_n22 rfl ⟨Nat.le_of_ble_eq_true rfl, Nat.le_of_ble_eq_true rfl⟩ (Nat.le_of_ble_eq_true rfl) (show cells + 0 ≤ 601024 by omega) (show slots + 0 ≤ 7293034 by omega) rfl ?_
    refine r_aload_n (x := (some v2)) C d_W_law_223 rfl rfl ?_
    refine r_aload_n (x := (some b)) C d_W_law_224 rfl rfl ?_
    refine r_iload (x := v4) C d_W_law_225 rfl ?_
    refine r_iconst C (1 : Int32) d_W_law_227 (by decide) ?_
    refine r_iadd C d_W_law_228 ?_
    replace h := g_ob h; obtain ⟨x7, e_x7, h⟩ := h
    refine r_sld C hX hbb d_W_law_229 e_x7 ?_
    refine r_aload_n (x := (some b)) C d_W_law_230 rfl rfl ?_
    refine r_iload (x := v4) C d_W_law_231 rfl ?_
    refine r_iconst C (2 : Int32) d_W_law_233 (by decide) ?_
    refine r_iadd C d_W_law_234 ?_
    replace h := g_ob h; obtain ⟨x8, e_x8, h⟩ := h
    refine r_sld C hX hbb d_W_law_235 e_x8 ?_
    refine r_if_eq C 243 d_W_law_236 (by decide) (fun c21 => ?_) (fun c21 => ?_)
    · rw [if_pos c21] at h
      refine r_iconst C (0 : Int32) d_W_law_243 (by decide) ?_
      refine r_aload_n (x := (some b)) C d_W_law_244 rfl rfl ?_
      refine r_iload (x := v4) C d_W_law_245 rfl ?_
      refine r_iconst C (3 : Int32) d_W_law_247 (by decide) ?_
      refine r_iadd C d_W_law_248 ?_
      replace h := g_ob h; obtain ⟨x9, e_x9, h⟩ := h
      refine r_sld C hX hbb d_W_law_249 e_x9 ?_
      refine r_i2l C d_W_law_250 ?_
      refine r_bipush C (32 : Int32) d_W_law_251 (by decide) ?_
      refine r_lshl C d_W_law_253 ?_
      refine r_aload_n (x := (some b)) C d_W_law_254 rfl rfl ?_
      refine r_iload (x := v4) C d_W_law_255 rfl ?_
      refine r_iconst C (4 : Int32) d_W_law_257 (by decide) ?_
      refine r_iadd C d_W_law_258 ?_
      replace h := g_ob h; obtain ⟨x10, e_x10, h⟩ := h
      refine r_sld C hX hbb d_W_law_259 e_x10 ?_
      refine r_i2l C d_W_law_260 ?_
      refine r_ldc2 C (4294967295 : Int64) d_W_law_261 w_357 ?_
      refine r_land C d_W_law_264 ?_
      refine r_lor C d_W_law_265 ?_
      replace h := g_ob h; obtain ⟨n14, e_n14, h⟩ := h
      replace h := g_o2 h; obtain ⟨r11, V12, e_r11, h⟩ := h
      refine r_callV (As := [tI x7, tI (0 : Int32), tJ ((x9.toInt64 <<< ((32 : Int32).toInt64 &&& 63)) ||| (x10.toInt64 &&& (4294967295 : Int64)))]) C k_W_38 w_370 w_371 w_368 ⟨_, _, rfl⟩ (c_M_set l E base v2 x7 (0 : Int32) ((x9.toInt64 <<< ((32 : Int32).toInt64 &&& 63)) ||| (x10.toInt64 &&& (4294967295 : Int64))) L V6 e_r11) d_W_law_266 e_n14 rfl ⟨Nat.le_of_ble_eq_true rfl, Nat.le_of_ble_eq_true rfl⟩ (Nat.le_of_ble_eq_true rfl) (show cells + 0 ≤ 601024 by omega) (show slots + 0 ≤ 7293034 by omega) rfl ?_
      refine r_icmp_eq C 859 d_W_law_269 (by decide) (fun c13 => ?_) (fun c13 => ?_)
      · rw [if_pos c13] at h
        refine r_wid (k := cells + 16) (n := slots + 100) (show cells + 0 ≤ cells + 16 by omega) (show slots + 0 ≤ slots + 100 by omega) ?_
        exact hK L V12 h
      · rw [if_neg c13] at h
        refine r_iconst C (0 : Int32) d_W_law_272 (by decide) ?_
        cases h
    · rw [if_neg c21] at h
      refine r_iconst C (1 : Int32) d_W_law_239 (by decide) ?_
      refine r_goto C 244 d_W_law_240 (by decide) ?_
      refine r_aload_n (x := (some b)) C d_W_law_244 rfl rfl ?_
      refine r_iload (x := v4) C d_W_law_245 rfl ?_
      refine r_iconst C (3 : Int32) d_W_law_247 (by decide) ?_
      refine r_iadd C d_W_law_248 ?_
      replace h := g_ob h; obtain ⟨x15, e_x15, h⟩ := h
      refine r_sld C hX hbb d_W_law_249 e_x15 ?_
      refine r_i2l C d_W_law_250 ?_
      refine r_bipush C (32 : Int32) d_W_law_251 (by decide) ?_
      refine r_lshl C d_W_law_253 ?_
      refine r_aload_n (x := (some b)) C d_W_law_254 rfl rfl ?_
      refine r_iload (x := v4) C d_W_law_255 rfl ?_
      refine r_iconst C (4 : Int32) d_W_law_257 (by decide) ?_
      refine r_iadd C d_W_law_258 ?_
      replace h := g_ob h; obtain ⟨x16, e_x16, h⟩ := h
      refine r_sld C hX hbb d_W_law_259 e_x16 ?_
      refine r_i2l C d_W_law_260 ?_
      refine r_ldc2 C (4294967295 : Int64) d_W_law_261 w_357 ?_
      refine r_land C d_W_law_264 ?_
      refine r_lor C d_W_law_265 ?_
      replace h := g_ob h; obtain ⟨n20, e_n20, h⟩ := h
      replace h := g_o2 h; obtain ⟨r17, V18, e_r17, h⟩ := h
      refine r_callV (As := [tI x7, tI (1 : Int32), tJ ((x15.toInt64 <<< ((32 : Int32).toInt64 &&& 63)) ||| (x16.toInt64 &&& (4294967295 : Int64)))]) C k_W_38 w_370 w_371 w_368 ⟨_, _, rfl⟩ (c_M_set l E base v2 x7 (1 : Int32) ((x15.toInt64 <<< ((32 : Int32).toInt64 &&& 63)) ||| (x16.toInt64 &&& (4294967295 : Int64))) L V6 e_r17) d_W_law_266 e_n20 rfl ⟨Nat.le_of_ble_eq_true rfl, Nat.le_of_ble_eq_true rfl⟩ (Nat.le_of_ble_eq_true rfl) (show cells + 0 ≤ 601024 by omega) (show slots + 0 ≤ 7293034 by omega) rfl ?_
      refine r_icmp_eq C 859 d_W_law_269 (by decide) (fun c19 => ?_) (fun c19 => ?_)
      · rw [if_pos c19] at h
        refine r_wid (k := cells + 16) (n := slots + 100) (show cells + 0 ≤ cells + 16 by omega) (show slots + 0 ≤ slots + 100 by omega) ?_
        exact hK L V18 h
      · rw [if_neg c19] at h
        refine r_iconst C (0 : Int32) d_W_law_272 (by decide) ?_
        cases h
  · rw [if_neg c43] at h
    refine r_iconst C (1 : Int32) d_W_law_193 (by decide) ?_
    refine r_goto C 198 d_W_law_194 (by decide) ?_
    refine r_aload_n (x := (some b)) C d_W_law_198 rfl rfl ?_
    refine r_iload (x := v4) C d_W_law_199 rfl ?_
    refine r_iconst C (3 : Int32) d_W_law_201 (by decide) ?_
    refine r_iadd C d_W_law_202 ?_
    replace h := g_ob h; obtain ⟨x23, e_x23, h⟩ := h
    refine r_sld C hX hbb d_W_law_203 e_x23 ?_
    refine r_i2l C d_W_law_204 ?_
    refine r_bipush C (32 : Int32) d_W_law_205 (by decide) ?_
    refine r_lshl C d_W_law_207 ?_
    refine r_aload_n (x := (some b)) C d_W_law_208 rfl rfl ?_
    refine r_iload (x := v4) C d_W_law_209 rfl ?_
    refine r_iconst C (4 : Int32) d_W_law_211 (by decide) ?_
    refine r_iadd C d_W_law_212 ?_
    replace h := g_ob h; obtain ⟨x24, e_x24, h⟩ := h
    refine r_sld C hX hbb d_W_law_213 e_x24 ?_
    refine r_i2l C d_W_law_214 ?_
    refine r_ldc2 C (4294967295 : Int64) d_W_law_215 w_357 ?_
    refine r_land C d_W_law_218 ?_
    refine r_lor C d_W_law_219 ?_
    replace h := g_ob h; obtain ⟨n42, e_n42, h⟩ := h
    replace h := g_o2 h; obtain ⟨r25, V26, e_r25, h⟩ := h
    refine r_callV (As := [tI x1, tI (1 : Int32), tJ ((x23.toInt64 <<< ((32 : Int32).toInt64 &&& 63)) ||| (x24.toInt64 &&& (4294967295 : Int64)))]) C k_W_34 w_372 w_373 w_366 ⟨_, _, rfl⟩ (c_A_set l E base v1 x1 (1 : Int32) ((x23.toInt64 <<< ((32 : Int32).toInt64 &&& 63)) ||| (x24.toInt64 &&& (4294967295 : Int64))) L V e_r25) d_W_law_220 e_n42 rfl ⟨Nat.le_of_ble_eq_true rfl, Nat.le_of_ble_eq_true rfl⟩ (Nat.le_of_ble_eq_true rfl) (show cells + 0 ≤ 601024 by omega) (show slots + 0 ≤ 7293034 by omega) rfl ?_
    refine r_aload_n (x := (some v2)) C d_W_law_223 rfl rfl ?_
    refine r_aload_n (x := (some b)) C d_W_law_224 rfl rfl ?_
    refine r_iload (x := v4) C d_W_law_225 rfl ?_
    refine r_iconst C (1 : Int32) d_W_law_227 (by decide) ?_
    refine r_iadd C d_W_law_228 ?_
    replace h := g_ob h; obtain ⟨x27, e_x27, h⟩ := h
    refine r_sld C hX hbb d_W_law_229 e_x27 ?_
    refine r_aload_n (x := (some b)) C d_W_law_230 rfl rfl ?_
    refine r_iload (x := v4) C d_W_law_231 rfl ?_
    refine r_iconst C (2 : Int32) d_W_law_233 (by decide) ?_
    refine r_iadd C d_W_law_234 ?_
    replace h := g_ob h; obtain ⟨x28, e_x28, h⟩ := h
    refine r_sld C hX hbb d_W_law_235 e_x28 ?_
    refine r_if_eq C 243 d_W_law_236 (by decide) (fun c41 => ?_) (fun c41 => ?_)
    · rw [if_pos c41] at h
      refine r_iconst C (0 : Int32) d_W_law_243 (by decide) ?_
      refine r_aload_n (x := (some b)) C d_W_law_244 rfl rfl ?_
      refine r_iload (x := v4) C d_W_law_245 rfl ?_
      refine r_iconst C (3 : Int32) d_W_law_247 (by decide) ?_
      refine r_iadd C d_W_law_248 ?_
      replace h := g_ob h; obtain ⟨x29, e_x29, h⟩ := h
      refine r_sld C hX hbb d_W_law_249 e_x29 ?_
      refine r_i2l C d_W_law_250 ?_
      refine r_bipush C (32 : Int32) d_W_law_251 (by decide) ?_
      refine r_lshl C d_W_law_253 ?_
      refine r_aload_n (x := (some b)) C d_W_law_254 rfl rfl ?_
      refine r_iload (x := v4) C d_W_law_255 rfl ?_
      refine r_iconst C (4 : Int32) d_W_law_257 (by decide) ?_
      refine r_iadd C d_W_law_258 ?_
      replace h := g_ob h; obtain ⟨x30, e_x30, h⟩ := h
      refine r_sld C hX hbb d_W_law_259 e_x30 ?_
      refine r_i2l C d_W_law_260 ?_
      refine r_ldc2 C (4294967295 : Int64) d_W_law_261 w_357 ?_
      refine r_land C d_W_law_264 ?_
      refine r_lor C d_W_law_265 ?_
      replace h := g_ob h; obtain ⟨n34, e_n34, h⟩ := h
      replace h := g_o2 h; obtain ⟨r31, V32, e_r31, h⟩ := h
      refine r_callV (As := [tI x27, tI (0 : Int32), tJ ((x29.toInt64 <<< ((32 : Int32).toInt64 &&& 63)) ||| (x30.toInt64 &&& (4294967295 : Int64)))]) C k_W_38 w_370 w_371 w_368 ⟨_, _, rfl⟩ (c_M_set l E base v2 x27 (0 : Int32) ((x29.toInt64 <<< ((32 : Int32).toInt64 &&& 63)) ||| (x30.toInt64 &&& (4294967295 : Int64))) L V26 e_r31) d_W_law_266 e_n34 rfl ⟨Nat.le_of_ble_eq_true rfl, Nat.le_of_ble_eq_true rfl⟩ (Nat.le_of_ble_eq_true rfl) (show cells + 0 ≤ 601024 by omega) (show slots + 0 ≤ 7293034 by omega) rfl ?_
      refine r_icmp_eq C 859 d_W_law_269 (by decide) (fun c33 => ?_) (fun c33 => ?_)
      · rw [if_pos c33] at h
        refine r_wid (k := cells + 16) (n := slots + 100) (show cells + 0 ≤ cells + 16 by omega) (show slots + 0 ≤ slots + 100 by omega) ?_
        exact hK L V32 h
      · rw [if_neg c33] at h
        refine r_iconst C (0 : Int32) d_W_law_272 (by decide) ?_
        cases h
    · rw [if_neg c41] at h
      refine r_iconst C (1 : Int32) d_W_law_239 (by decide) ?_
      refine r_goto C 244 d_W_law_240 (by decide) ?_
      refine r_aload_n (x := (some b)) C d_W_law_244 rfl rfl ?_
      refine r_iload (x := v4) C d_W_law_245 rfl ?_
      refine r_iconst C (3 : Int32) d_W_law_247 (by decide) ?_
      refine r_iadd C d_W_law_248 ?_
      replace h := g_ob h; obtain ⟨x35, e_x35, h⟩ := h
      refine r_sld C hX hbb d_W_law_249 e_x35 ?_
      refine r_i2l C d_W_law_250 ?_
      refine r_bipush C (32 : Int32) d_W_law_251 (by decide) ?_
      refine r_lshl C d_W_law_253 ?_
      refine r_aload_n (x := (some b)) C d_W_law_254 rfl rfl ?_
      refine r_iload (x := v4) C d_W_law_255 rfl ?_
      refine r_iconst C (4 : Int32) d_W_law_257 (by decide) ?_
      refine r_iadd C d_W_law_258 ?_
      replace h := g_ob h; obtain ⟨x36, e_x36, h⟩ := h
      refine r_sld C hX hbb d_W_law_259 e_x36 ?_
      refine r_i2l C d_W_law_260 ?_
      refine r_ldc2 C (4294967295 : Int64) d_W_law_261 w_357 ?_
      refine r_land C d_W_law_264 ?_
      refine r_lor C d_W_law_265 ?_
      replace h := g_ob h; obtain ⟨n40, e_n40, h⟩ := h
      replace h := g_o2 h; obtain ⟨r37, V38, e_r37, h⟩ := h
      refine r_callV (As := [tI x27, tI (1 : Int32), tJ ((x35.toInt64 <<< ((32 : Int32).toInt64 &&& 63)) ||| (x36.toInt64 &&& (4294967295 : Int64)))]) C k_W_38 w_370 w_371 w_368 ⟨_, _, rfl⟩ (c_M_set l E base v2 x27 (1 : Int32) ((x35.toInt64 <<< ((32 : Int32).toInt64 &&& 63)) ||| (x36.toInt64 &&& (4294967295 : Int64))) L V26 e_r37) d_W_law_266 e_n40 rfl ⟨Nat.le_of_ble_eq_true rfl, Nat.le_of_ble_eq_true rfl⟩ (Nat.le_of_ble_eq_true rfl) (show cells + 0 ≤ 601024 by omega) (show slots + 0 ≤ 7293034 by omega) rfl ?_
      refine r_icmp_eq C 859 d_W_law_269 (by decide) (fun c39 => ?_) (fun c39 => ?_)
      · rw [if_pos c39] at h
        refine r_wid (k := cells + 16) (n := slots + 100) (show cells + 0 ≤ cells + 16 by omega) (show slots + 0 ≤ slots + 100 by omega) ?_
        exact hK L V38 h
      · rw [if_neg c39] at h
        refine r_iconst C (0 : Int32) d_W_law_272 (by decide) ?_
        cases h
def D_L2 (Ln : Nat) (xs : Nat → Int32) (v1 v2 v3 : Nat) (v4 : Int32) (K : gL → gV → Option Unit) (L : gL) (V : gV) : Option Unit :=
  Option.bind (g_sx Ln xs (v4 + (1 : Int32))) fun x1 =>
    Option.bind ((L).2 3 v1) fun n9 =>
    g_b2 (D_A_touch v1 x1 L V) fun r2 V3 =>
    Option.bind (g_sx Ln xs (v4 + (1 : Int32))) fun x4 =>
    Option.bind ((L).2 4 v2) fun n8 =>
    g_b2 (D_M_touch v2 x4 L V3) fun r5 V6 =>
    (if r2 = r5 then
    K L V6
  else
    none)
set_option maxHeartbeats 4000000 in
set_option maxRecDepth 100000 in
theorem t_L2 (C : gC E base p s m args meth c b_W_law R_W 8) (hX : va_X b Ln xs s s.heap) (hbb : b < base ∧ base = s.heap.size) (hfl : l.flags = flags0) (hT : g_T sa base s) {v1 v2 v3 : Nat} {v4 : Int32} {cells slots : Nat} (hcl : cells + 16 ≤ 601024) (hsl : slots + 100 ≤ 7293034) {K : gL → gV → Option Unit} (hK : ∀ (L : gL) (V : gV), K L V = some () → vW E base base 8 p l e room_1 s m args below meth c (cells + 16) (slots + 100) Q L V 859 [(0, tR (some b)), (1, tR (some v1)), (2, tR (some v2)), (3, tR (some v3)), (4, tI v4)] []) (L : gL) (V : gV) (h : D_L2 Ln xs v1 v2 v3 v4 K L V = some ()) : vW E base base 8 p l e room_1 s m args below meth c cells slots Q L V 274 [(0, tR (some b)), (1, tR (some v1)), (2, tR (some v2)), (3, tR (some v3)), (4, tI v4)] [] := by
  unfold D_L2 at h
  refine r_aload_n (x := (some v1)) C d_W_law_274 rfl rfl ?_
  refine r_aload_n (x := (some b)) C d_W_law_275 rfl rfl ?_
  refine r_iload (x := v4) C d_W_law_276 rfl ?_
  refine r_iconst C (1 : Int32) d_W_law_278 (by decide) ?_
  refine r_iadd C d_W_law_279 ?_
  replace h := g_ob h; obtain ⟨x1, e_x1, h⟩ := h
  refine r_sld C hX hbb d_W_law_280 e_x1 ?_
  replace h := g_ob h; obtain ⟨n9, e_n9, h⟩ := h
  replace h := g_o2 h; obtain ⟨r2, V3, e_r2, h⟩ := h
  refine r_callV (As := [tI x1]) C k_W_39 w_380 w_381 w_374 ⟨_, _, rfl⟩ (c_A_touch l E base v1 x1 L V e_r2) d_W_law_281 e_n9 rfl ⟨Nat.le_of_ble_eq_true rfl, Nat.le_of_ble_eq_true rfl⟩ (Nat.le_of_ble_eq_true rfl) (show cells + 0 ≤ 601024 by omega) (show slots + 0 ≤ 7293034 by omega) rfl ?_
  refine r_aload_n (x := (some v2)) C d_W_law_284 rfl rfl ?_
  refine r_aload_n (x := (some b)) C d_W_law_285 rfl rfl ?_
  refine r_iload (x := v4) C d_W_law_286 rfl ?_
  refine r_iconst C (1 : Int32) d_W_law_288 (by decide) ?_
  refine r_iadd C d_W_law_289 ?_
  replace h := g_ob h; obtain ⟨x4, e_x4, h⟩ := h
  refine r_sld C hX hbb d_W_law_290 e_x4 ?_
  replace h := g_ob h; obtain ⟨n8, e_n8, h⟩ := h
  replace h := g_o2 h; obtain ⟨r5, V6, e_r5, h⟩ := h
  refine r_callV (As := [tI x4]) C k_W_43 w_378 w_379 w_376 ⟨_, _, rfl⟩ (c_M_touch l E base v2 x4 L V3 e_r5) d_W_law_291 e_n8 rfl ⟨Nat.le_of_ble_eq_true rfl, Nat.le_of_ble_eq_true rfl⟩ (Nat.le_of_ble_eq_true rfl) (show cells + 0 ≤ 601024 by omega) (show slots + 0 ≤ 7293034 by omega) rfl ?_
  refine r_icmp_eq C 859 d_W_law_294 (by decide) (fun c7 => ?_) (fun c7 => ?_)
  · rw [if_pos c7] at h
    refine r_wid (k := cells + 16) (n := slots + 100) (show cells + 0 ≤ cells + 16 by omega) (show slots + 0 ≤ slots + 100 by omega) ?_
    exact hK L V6 h
  · rw [if_neg c7] at h
    refine r_iconst C (0 : Int32) d_W_law_297 (by decide) ?_
    cases h
def D_L3 (Ln : Nat) (xs : Nat → Int32) (v1 v2 v3 : Nat) (v4 : Int32) (K : gL → gV → Option Unit) (L : gL) (V : gV) : Option Unit :=
  Option.bind (g_sx Ln xs (v4 + (1 : Int32))) fun x1 =>
    Option.bind (g_sx Ln xs (v4 + (2 : Int32))) fun x2 =>
    Option.bind (g_sx Ln xs (v4 + (3 : Int32))) fun x3 =>
    Option.bind (g_sx Ln xs (v4 + (4 : Int32))) fun x4 =>
    Option.bind ((L).2 3 v1) fun n16 =>
    g_b3 (D_A_step v1 ((x1.toInt64 <<< ((32 : Int32).toInt64 &&& 63)) ||| (x2.toInt64 &&& (4294967295 : Int64))) ((x3.toInt64 <<< ((32 : Int32).toInt64 &&& 63)) ||| (x4.toInt64 &&& (4294967295 : Int64))) L V) fun r5 L7 V6 =>
    Option.bind (g_sx Ln xs (v4 + (1 : Int32))) fun x8 =>
    Option.bind (g_sx Ln xs (v4 + (2 : Int32))) fun x9 =>
    Option.bind (g_sx Ln xs (v4 + (3 : Int32))) fun x10 =>
    Option.bind (g_sx Ln xs (v4 + (4 : Int32))) fun x11 =>
    Option.bind ((L7).2 4 v2) fun n15 =>
    g_b2 (D_M_step v2 ((x8.toInt64 <<< ((32 : Int32).toInt64 &&& 63)) ||| (x9.toInt64 &&& (4294967295 : Int64))) ((x10.toInt64 <<< ((32 : Int32).toInt64 &&& 63)) ||| (x11.toInt64 &&& (4294967295 : Int64))) L7 V6) fun r12 V13 =>
    (if r5 = r12 then
    K L7 V13
  else
    none)
set_option maxHeartbeats 4000000 in
set_option maxRecDepth 100000 in
theorem t_L3 (C : gC E base p s m args meth c b_W_law R_W 8) (hX : va_X b Ln xs s s.heap) (hbb : b < base ∧ base = s.heap.size) (hfl : l.flags = flags0) (hT : g_T sa base s) {v1 v2 v3 : Nat} {v4 : Int32} {cells slots : Nat} (hcl : cells + 16 ≤ 601024) (hsl : slots + 100 ≤ 7293034) {K : gL → gV → Option Unit} (hK : ∀ (L : gL) (V : gV), K L V = some () → vW E base base 8 p l e room_1 s m args below meth c (cells + 16) (slots + 100) Q L V 859 [(0, tR (some b)), (1, tR (some v1)), (2, tR (some v2)), (3, tR (some v3)), (4, tI v4)] []) (L : gL) (V : gV) (h : D_L3 Ln xs v1 v2 v3 v4 K L V = some ()) : vW E base base 8 p l e room_1 s m args below meth c cells slots Q L V 299 [(0, tR (some b)), (1, tR (some v1)), (2, tR (some v2)), (3, tR (some v3)), (4, tI v4)] [] := by
  unfold D_L3 at h
  refine r_aload_n (x := (some v1)) C d_W_law_299 rfl rfl ?_
  refine r_aload_n (x := (some b)) C d_W_law_300 rfl rfl ?_
  refine r_iload (x := v4) C d_W_law_301 rfl ?_
  refine r_iconst C (1 : Int32) d_W_law_303 (by decide) ?_
  refine r_iadd C d_W_law_304 ?_
  replace h := g_ob h; obtain ⟨x1, e_x1, h⟩ := h
  refine r_sld C hX hbb d_W_law_305 e_x1 ?_
  refine r_i2l C d_W_law_306 ?_
  refine r_bipush C (32 : Int32) d_W_law_307 (by decide) ?_
  refine r_lshl C d_W_law_309 ?_
  refine r_aload_n (x := (some b)) C d_W_law_310 rfl rfl ?_
  refine r_iload (x := v4) C d_W_law_311 rfl ?_
  refine r_iconst C (2 : Int32) d_W_law_313 (by decide) ?_
  refine r_iadd C d_W_law_314 ?_
  replace h := g_ob h; obtain ⟨x2, e_x2, h⟩ := h
  refine r_sld C hX hbb d_W_law_315 e_x2 ?_
  refine r_i2l C d_W_law_316 ?_
  refine r_ldc2 C (4294967295 : Int64) d_W_law_317 w_357 ?_
  refine r_land C d_W_law_320 ?_
  refine r_lor C d_W_law_321 ?_
  refine r_aload_n (x := (some b)) C d_W_law_322 rfl rfl ?_
  refine r_iload (x := v4) C d_W_law_323 rfl ?_
  refine r_iconst C (3 : Int32) d_W_law_325 (by decide) ?_
  refine r_iadd C d_W_law_326 ?_
  replace h := g_ob h; obtain ⟨x3, e_x3, h⟩ := h
  refine r_sld C hX hbb d_W_law_327 e_x3 ?_
  refine r_i2l C d_W_law_328 ?_
  refine r_bipush C (32 : Int32) d_W_law_329 (by decide) ?_
  refine r_lshl C d_W_law_331 ?_
  refine r_aload_n (x := (some b)) C d_W_law_332 rfl rfl ?_
  refine r_iload (x := v4) C d_W_law_333 rfl ?_
  refine r_iconst C (4 : Int32) d_W_law_335 (by decide) ?_
  refine r_iadd C d_W_law_336 ?_
  replace h := g_ob h; obtain ⟨x4, e_x4, h⟩ := h
  refine r_sld C hX hbb d_W_law_337 e_x4 ?_
  refine r_i2l C d_W_law_338 ?_
  refine r_ldc2 C (4294967295 : Int64) d_W_law_339 w_357 ?_
  refine r_land C d_W_law_342 ?_
  refine r_lor C d_W_law_343 ?_
  replace h := g_ob h; obtain ⟨n16, e_n16, h⟩ := h
  replace h := g_o3 h; obtain ⟨r5, L7, V6, e_r5, h⟩ := h
  refine r_callV (As := [tJ ((x1.toInt64 <<< ((32 : Int32).toInt64 &&& 63)) ||| (x2.toInt64 &&& (4294967295 : Int64))), tJ ((x3.toInt64 <<< ((32 : Int32).toInt64 &&& 63)) ||| (x4.toInt64 &&& (4294967295 : Int64)))]) C k_W_44 w_388 w_389 w_382 ⟨_, _, rfl⟩ (c_A_step l E base v1 ((x1.toInt64 <<< ((32 : Int32).toInt64 &&& 63)) ||| (x2.toInt64 &&& (4294967295 : Int64))) ((x3.toInt64 <<< ((32 : Int32).toInt64 &&& 63)) ||| (x4.toInt64 &&& (4294967295 : Int64))) L V e_r5) d_W_law_344 e_n16 rfl ⟨Nat.le_of_ble_eq_true rfl, Nat.le_of_ble_eq_true rfl⟩ (Nat.le_of_ble_eq_true rfl) (show cells + 15 ≤ 601024 by omega) (show slots + 89 ≤ 7293034 by omega) rfl ?_
  refine r_aload_n (x := (some v2)) C d_W_law_347 rfl rfl ?_
  refine r_aload_n (x := (some b)) C d_W_law_348 rfl rfl ?_
  refine r_iload (x := v4) C d_W_law_349 rfl ?_
  refine r_iconst C (1 : Int32) d_W_law_351 (by decide) ?_
  refine r_iadd C d_W_law_352 ?_
  replace h := g_ob h; obtain ⟨x8, e_x8, h⟩ := h
  refine r_sld C hX hbb d_W_law_353 e_x8 ?_
  refine r_i2l C d_W_law_354 ?_
  refine r_bipush C (32 : Int32) d_W_law_355 (by decide) ?_
  refine r_lshl C d_W_law_357 ?_
  refine r_aload_n (x := (some b)) C d_W_law_358 rfl rfl ?_
  refine r_iload (x := v4) C d_W_law_359 rfl ?_
  refine r_iconst C (2 : Int32) d_W_law_361 (by decide) ?_
  refine r_iadd C d_W_law_362 ?_
  replace h := g_ob h; obtain ⟨x9, e_x9, h⟩ := h
  refine r_sld C hX hbb d_W_law_363 e_x9 ?_
  refine r_i2l C d_W_law_364 ?_
  refine r_ldc2 C (4294967295 : Int64) d_W_law_365 w_357 ?_
  refine r_land C d_W_law_368 ?_
  refine r_lor C d_W_law_369 ?_
  refine r_aload_n (x := (some b)) C d_W_law_370 rfl rfl ?_
  refine r_iload (x := v4) C d_W_law_371 rfl ?_
  refine r_iconst C (3 : Int32) d_W_law_373 (by decide) ?_
  refine r_iadd C d_W_law_374 ?_
  replace h := g_ob h; obtain ⟨x10, e_x10, h⟩ := h
  refine r_sld C hX hbb d_W_law_375 e_x10 ?_
  refine r_i2l C d_W_law_376 ?_
  refine r_bipush C (32 : Int32) d_W_law_377 (by decide) ?_
  refine r_lshl C d_W_law_379 ?_
  refine r_aload_n (x := (some b)) C d_W_law_380 rfl rfl ?_
  refine r_iload (x := v4) C d_W_law_381 rfl ?_
  refine r_iconst C (4 : Int32) d_W_law_383 (by decide) ?_
  refine r_iadd C d_W_law_384 ?_
  replace h := g_ob h; obtain ⟨x11, e_x11, h⟩ := h
  refine r_sld C hX hbb d_W_law_385 e_x11 ?_
  refine r_i2l C d_W_law_386 ?_
  refine r_ldc2 C (4294967295 : Int64) d_W_law_387 w_357 ?_
  refine r_land C d_W_law_390 ?_
  refine r_lor C d_W_law_391 ?_
  replace h := g_ob h; obtain ⟨n15, e_n15, h⟩ := h
  replace h := g_o2 h; obtain ⟨r12, V13, e_r12, h⟩ := h
  refine r_callV (As := [tJ ((x8.toInt64 <<< ((32 : Int32).toInt64 &&& 63)) ||| (x9.toInt64 &&& (4294967295 : Int64))), tJ ((x10.toInt64 <<< ((32 : Int32).toInt64 &&& 63)) ||| (x11.toInt64 &&& (4294967295 : Int64)))]) C k_W_48 w_386 w_387 w_384 ⟨_, _, rfl⟩ (c_M_step l E base v2 ((x8.toInt64 <<< ((32 : Int32).toInt64 &&& 63)) ||| (x9.toInt64 &&& (4294967295 : Int64))) ((x10.toInt64 <<< ((32 : Int32).toInt64 &&& 63)) ||| (x11.toInt64 &&& (4294967295 : Int64))) L7 V6 e_r12) d_W_law_392 e_n15 rfl ⟨Nat.le_of_ble_eq_true rfl, Nat.le_of_ble_eq_true rfl⟩ (Nat.le_of_ble_eq_true rfl) (show cells + 15 ≤ 601024 by omega) (show slots + 89 ≤ 7293034 by omega) rfl ?_
  refine r_icmp_eq C 859 d_W_law_395 (by decide) (fun c14 => ?_) (fun c14 => ?_)
  · rw [if_pos c14] at h
    refine r_wid (k := cells + 16) (n := slots + 100) (show cells + 15 ≤ cells + 16 by omega) (show slots + 89 ≤ slots + 100 by omega) ?_
    exact hK L7 V13 h
  · rw [if_neg c14] at h
    refine r_iconst C (0 : Int32) d_W_law_398 (by decide) ?_
    cases h
def D_L4 (Ln : Nat) (xs : Nat → Int32) (v1 v2 v3 : Nat) (v4 : Int32) (K : gL → gV → Option Unit) (L : gL) (V : gV) : Option Unit :=
  Option.bind (g_sx Ln xs (v4 + (1 : Int32))) fun x1 =>
    Option.bind (g_sx Ln xs (v4 + (2 : Int32))) fun x2 =>
    Option.bind ((L).2 3 v1) fun n11 =>
    g_b2 (D_A_readsFile v1 x1 x2 L V) fun r3 V4 =>
    Option.bind (g_sx Ln xs (v4 + (1 : Int32))) fun x5 =>
    Option.bind (g_sx Ln xs (v4 + (2 : Int32))) fun x6 =>
    Option.bind ((L).2 4 v2) fun n10 =>
    g_b2 (D_M_readsFile v2 x5 x6 L V4) fun r7 V8 =>
    (if r3 = r7 then
    K L V8
  else
    none)
set_option maxHeartbeats 4000000 in
set_option maxRecDepth 100000 in
theorem t_L4 (C : gC E base p s m args meth c b_W_law R_W 8) (hX : va_X b Ln xs s s.heap) (hbb : b < base ∧ base = s.heap.size) (hfl : l.flags = flags0) (hT : g_T sa base s) {v1 v2 v3 : Nat} {v4 : Int32} {cells slots : Nat} (hcl : cells + 16 ≤ 601024) (hsl : slots + 100 ≤ 7293034) {K : gL → gV → Option Unit} (hK : ∀ (L : gL) (V : gV), K L V = some () → vW E base base 8 p l e room_1 s m args below meth c (cells + 16) (slots + 100) Q L V 859 [(0, tR (some b)), (1, tR (some v1)), (2, tR (some v2)), (3, tR (some v3)), (4, tI v4)] []) (L : gL) (V : gV) (h : D_L4 Ln xs v1 v2 v3 v4 K L V = some ()) : vW E base base 8 p l e room_1 s m args below meth c cells slots Q L V 400 [(0, tR (some b)), (1, tR (some v1)), (2, tR (some v2)), (3, tR (some v3)), (4, tI v4)] [] := by
  unfold D_L4 at h
  refine r_aload_n (x := (some v1)) C d_W_law_400 rfl rfl ?_
  refine r_aload_n (x := (some b)) C d_W_law_401 rfl rfl ?_
  refine r_iload (x := v4) C d_W_law_402 rfl ?_
  refine r_iconst C (1 : Int32) d_W_law_404 (by decide) ?_
  refine r_iadd C d_W_law_405 ?_
  replace h := g_ob h; obtain ⟨x1, e_x1, h⟩ := h
  refine r_sld C hX hbb d_W_law_406 e_x1 ?_
  refine r_aload_n (x := (some b)) C d_W_law_407 rfl rfl ?_
  refine r_iload (x := v4) C d_W_law_408 rfl ?_
  refine r_iconst C (2 : Int32) d_W_law_410 (by decide) ?_
  refine r_iadd C d_W_law_411 ?_
  replace h := g_ob h; obtain ⟨x2, e_x2, h⟩ := h
  refine r_sld C hX hbb d_W_law_412 e_x2 ?_
  replace h := g_ob h; obtain ⟨n11, e_n11, h⟩ := h
  replace h := g_o2 h; obtain ⟨r3, V4, e_r3, h⟩ := h
  refine r_callV (As := [tI x1, tI x2]) C k_W_49 w_396 w_397 w_390 ⟨_, _, rfl⟩ (c_A_readsFile l E base v1 x1 x2 L V e_r3) d_W_law_413 e_n11 rfl ⟨Nat.le_of_ble_eq_true rfl, Nat.le_of_ble_eq_true rfl⟩ (Nat.le_of_ble_eq_true rfl) (show cells + 0 ≤ 601024 by omega) (show slots + 0 ≤ 7293034 by omega) rfl ?_
  refine r_aload_n (x := (some v2)) C d_W_law_416 rfl rfl ?_
  refine r_aload_n (x := (some b)) C d_W_law_417 rfl rfl ?_
  refine r_iload (x := v4) C d_W_law_418 rfl ?_
  refine r_iconst C (1 : Int32) d_W_law_420 (by decide) ?_
  refine r_iadd C d_W_law_421 ?_
  replace h := g_ob h; obtain ⟨x5, e_x5, h⟩ := h
  refine r_sld C hX hbb d_W_law_422 e_x5 ?_
  refine r_aload_n (x := (some b)) C d_W_law_423 rfl rfl ?_
  refine r_iload (x := v4) C d_W_law_424 rfl ?_
  refine r_iconst C (2 : Int32) d_W_law_426 (by decide) ?_
  refine r_iadd C d_W_law_427 ?_
  replace h := g_ob h; obtain ⟨x6, e_x6, h⟩ := h
  refine r_sld C hX hbb d_W_law_428 e_x6 ?_
  replace h := g_ob h; obtain ⟨n10, e_n10, h⟩ := h
  replace h := g_o2 h; obtain ⟨r7, V8, e_r7, h⟩ := h
  refine r_callV (As := [tI x5, tI x6]) C k_W_53 w_394 w_395 w_392 ⟨_, _, rfl⟩ (c_M_readsFile l E base v2 x5 x6 L V4 e_r7) d_W_law_429 e_n10 rfl ⟨Nat.le_of_ble_eq_true rfl, Nat.le_of_ble_eq_true rfl⟩ (Nat.le_of_ble_eq_true rfl) (show cells + 0 ≤ 601024 by omega) (show slots + 0 ≤ 7293034 by omega) rfl ?_
  refine r_icmp_eq C 859 d_W_law_432 (by decide) (fun c9 => ?_) (fun c9 => ?_)
  · rw [if_pos c9] at h
    refine r_wid (k := cells + 16) (n := slots + 100) (show cells + 0 ≤ cells + 16 by omega) (show slots + 0 ≤ slots + 100 by omega) ?_
    exact hK L V8 h
  · rw [if_neg c9] at h
    refine r_iconst C (0 : Int32) d_W_law_435 (by decide) ?_
    cases h
def D_L5 (Ln : Nat) (xs : Nat → Int32) (v1 v2 v3 : Nat) (v4 : Int32) (K : gL → gV → Option Unit) (L : gL) (V : gV) : Option Unit :=
  Option.bind (g_sx Ln xs (v4 + (1 : Int32))) fun x1 =>
    Option.bind (g_sx Ln xs (v4 + (2 : Int32))) fun x2 =>
    Option.bind (g_sx Ln xs (v4 + (3 : Int32))) fun x3 =>
    Option.bind ((L).2 3 v1) fun n13 =>
    g_b2 (D_A_readsPart v1 x1 x2 x3 L V) fun r4 V5 =>
    Option.bind (g_sx Ln xs (v4 + (1 : Int32))) fun x6 =>
    Option.bind (g_sx Ln xs (v4 + (2 : Int32))) fun x7 =>
    Option.bind (g_sx Ln xs (v4 + (3 : Int32))) fun x8 =>
    Option.bind ((L).2 4 v2) fun n12 =>
    g_b2 (D_M_readsPart v2 x6 x7 x8 L V5) fun r9 V10 =>
    (if r4 = r9 then
    K L V10
  else
    none)
set_option maxHeartbeats 4000000 in
set_option maxRecDepth 100000 in
theorem t_L5 (C : gC E base p s m args meth c b_W_law R_W 8) (hX : va_X b Ln xs s s.heap) (hbb : b < base ∧ base = s.heap.size) (hfl : l.flags = flags0) (hT : g_T sa base s) {v1 v2 v3 : Nat} {v4 : Int32} {cells slots : Nat} (hcl : cells + 16 ≤ 601024) (hsl : slots + 100 ≤ 7293034) {K : gL → gV → Option Unit} (hK : ∀ (L : gL) (V : gV), K L V = some () → vW E base base 8 p l e room_1 s m args below meth c (cells + 16) (slots + 100) Q L V 859 [(0, tR (some b)), (1, tR (some v1)), (2, tR (some v2)), (3, tR (some v3)), (4, tI v4)] []) (L : gL) (V : gV) (h : D_L5 Ln xs v1 v2 v3 v4 K L V = some ()) : vW E base base 8 p l e room_1 s m args below meth c cells slots Q L V 437 [(0, tR (some b)), (1, tR (some v1)), (2, tR (some v2)), (3, tR (some v3)), (4, tI v4)] [] := by
  unfold D_L5 at h
  refine r_aload_n (x := (some v1)) C d_W_law_437 rfl rfl ?_
  refine r_aload_n (x := (some b)) C d_W_law_438 rfl rfl ?_
  refine r_iload (x := v4) C d_W_law_439 rfl ?_
  refine r_iconst C (1 : Int32) d_W_law_441 (by decide) ?_
  refine r_iadd C d_W_law_442 ?_
  replace h := g_ob h; obtain ⟨x1, e_x1, h⟩ := h
  refine r_sld C hX hbb d_W_law_443 e_x1 ?_
  refine r_aload_n (x := (some b)) C d_W_law_444 rfl rfl ?_
  refine r_iload (x := v4) C d_W_law_445 rfl ?_
  refine r_iconst C (2 : Int32) d_W_law_447 (by decide) ?_
  refine r_iadd C d_W_law_448 ?_
  replace h := g_ob h; obtain ⟨x2, e_x2, h⟩ := h
  refine r_sld C hX hbb d_W_law_449 e_x2 ?_
  refine r_aload_n (x := (some b)) C d_W_law_450 rfl rfl ?_
  refine r_iload (x := v4) C d_W_law_451 rfl ?_
  refine r_iconst C (3 : Int32) d_W_law_453 (by decide) ?_
  refine r_iadd C d_W_law_454 ?_
  replace h := g_ob h; obtain ⟨x3, e_x3, h⟩ := h
  refine r_sld C hX hbb d_W_law_455 e_x3 ?_
  replace h := g_ob h; obtain ⟨n13, e_n13, h⟩ := h
  replace h := g_o2 h; obtain ⟨r4, V5, e_r4, h⟩ := h
  refine r_callV (As := [tI x1, tI x2, tI x3]) C k_W_54 w_404 w_405 w_398 ⟨_, _, rfl⟩ (c_A_readsPart l E base v1 x1 x2 x3 L V e_r4) d_W_law_456 e_n13 rfl ⟨Nat.le_of_ble_eq_true rfl, Nat.le_of_ble_eq_true rfl⟩ (Nat.le_of_ble_eq_true rfl) (show cells + 0 ≤ 601024 by omega) (show slots + 0 ≤ 7293034 by omega) rfl ?_
  refine r_aload_n (x := (some v2)) C d_W_law_459 rfl rfl ?_
  refine r_aload_n (x := (some b)) C d_W_law_460 rfl rfl ?_
  refine r_iload (x := v4) C d_W_law_461 rfl ?_
  refine r_iconst C (1 : Int32) d_W_law_463 (by decide) ?_
  refine r_iadd C d_W_law_464 ?_
  replace h := g_ob h; obtain ⟨x6, e_x6, h⟩ := h
  refine r_sld C hX hbb d_W_law_465 e_x6 ?_
  refine r_aload_n (x := (some b)) C d_W_law_466 rfl rfl ?_
  refine r_iload (x := v4) C d_W_law_467 rfl ?_
  refine r_iconst C (2 : Int32) d_W_law_469 (by decide) ?_
  refine r_iadd C d_W_law_470 ?_
  replace h := g_ob h; obtain ⟨x7, e_x7, h⟩ := h
  refine r_sld C hX hbb d_W_law_471 e_x7 ?_
  refine r_aload_n (x := (some b)) C d_W_law_472 rfl rfl ?_
  refine r_iload (x := v4) C d_W_law_473 rfl ?_
  refine r_iconst C (3 : Int32) d_W_law_475 (by decide) ?_
  refine r_iadd C d_W_law_476 ?_
  replace h := g_ob h; obtain ⟨x8, e_x8, h⟩ := h
  refine r_sld C hX hbb d_W_law_477 e_x8 ?_
  replace h := g_ob h; obtain ⟨n12, e_n12, h⟩ := h
  replace h := g_o2 h; obtain ⟨r9, V10, e_r9, h⟩ := h
  refine r_callV (As := [tI x6, tI x7, tI x8]) C k_W_58 w_402 w_403 w_400 ⟨_, _, rfl⟩ (c_M_readsPart l E base v2 x6 x7 x8 L V5 e_r9) d_W_law_478 e_n12 rfl ⟨Nat.le_of_ble_eq_true rfl, Nat.le_of_ble_eq_true rfl⟩ (Nat.le_of_ble_eq_true rfl) (show cells + 0 ≤ 601024 by omega) (show slots + 0 ≤ 7293034 by omega) rfl ?_
  refine r_icmp_eq C 859 d_W_law_481 (by decide) (fun c11 => ?_) (fun c11 => ?_)
  · rw [if_pos c11] at h
    refine r_wid (k := cells + 16) (n := slots + 100) (show cells + 0 ≤ cells + 16 by omega) (show slots + 0 ≤ slots + 100 by omega) ?_
    exact hK L V10 h
  · rw [if_neg c11] at h
    refine r_iconst C (0 : Int32) d_W_law_484 (by decide) ?_
    cases h
def D_L6 (Ln : Nat) (xs : Nat → Int32) (v1 v2 v3 : Nat) (v4 : Int32) (K : gL → gV → Option Unit) (L : gL) (V : gV) : Option Unit :=
  Option.bind (g_sx Ln xs (v4 + (1 : Int32))) fun x1 =>
    Option.bind ((L).2 3 v1) fun n9 =>
    g_b2 (D_A_force v1 x1 L V) fun r2 V3 =>
    Option.bind (g_sx Ln xs (v4 + (1 : Int32))) fun x4 =>
    Option.bind ((L).2 4 v2) fun n8 =>
    g_b2 (D_M_force v2 x4 L V3) fun r5 V6 =>
    (if r2 = r5 then
    K L V6
  else
    none)
set_option maxHeartbeats 4000000 in
set_option maxRecDepth 100000 in
theorem t_L6 (C : gC E base p s m args meth c b_W_law R_W 8) (hX : va_X b Ln xs s s.heap) (hbb : b < base ∧ base = s.heap.size) (hfl : l.flags = flags0) (hT : g_T sa base s) {v1 v2 v3 : Nat} {v4 : Int32} {cells slots : Nat} (hcl : cells + 16 ≤ 601024) (hsl : slots + 100 ≤ 7293034) {K : gL → gV → Option Unit} (hK : ∀ (L : gL) (V : gV), K L V = some () → vW E base base 8 p l e room_1 s m args below meth c (cells + 16) (slots + 100) Q L V 859 [(0, tR (some b)), (1, tR (some v1)), (2, tR (some v2)), (3, tR (some v3)), (4, tI v4)] []) (L : gL) (V : gV) (h : D_L6 Ln xs v1 v2 v3 v4 K L V = some ()) : vW E base base 8 p l e room_1 s m args below meth c cells slots Q L V 486 [(0, tR (some b)), (1, tR (some v1)), (2, tR (some v2)), (3, tR (some v3)), (4, tI v4)] [] := by
  unfold D_L6 at h
  refine r_aload_n (x := (some v1)) C d_W_law_486 rfl rfl ?_
  refine r_aload_n (x := (some b)) C d_W_law_487 rfl rfl ?_
  refine r_iload (x := v4) C d_W_law_488 rfl ?_
  refine r_iconst C (1 : Int32) d_W_law_490 (by decide) ?_
  refine r_iadd C d_W_law_491 ?_
  replace h := g_ob h; obtain ⟨x1, e_x1, h⟩ := h
  refine r_sld C hX hbb d_W_law_492 e_x1 ?_
  replace h := g_ob h; obtain ⟨n9, e_n9, h⟩ := h
  replace h := g_o2 h; obtain ⟨r2, V3, e_r2, h⟩ := h
  refine r_callV (As := [tI x1]) C k_W_59 w_412 w_413 w_406 ⟨_, _, rfl⟩ (c_A_force l E base v1 x1 L V e_r2) d_W_law_493 e_n9 rfl ⟨Nat.le_of_ble_eq_true rfl, Nat.le_of_ble_eq_true rfl⟩ (Nat.le_of_ble_eq_true rfl) (show cells + 0 ≤ 601024 by omega) (show slots + 0 ≤ 7293034 by omega) rfl ?_
  refine r_aload_n (x := (some v2)) C d_W_law_496 rfl rfl ?_
  refine r_aload_n (x := (some b)) C d_W_law_497 rfl rfl ?_
  refine r_iload (x := v4) C d_W_law_498 rfl ?_
  refine r_iconst C (1 : Int32) d_W_law_500 (by decide) ?_
  refine r_iadd C d_W_law_501 ?_
  replace h := g_ob h; obtain ⟨x4, e_x4, h⟩ := h
  refine r_sld C hX hbb d_W_law_502 e_x4 ?_
  replace h := g_ob h; obtain ⟨n8, e_n8, h⟩ := h
  replace h := g_o2 h; obtain ⟨r5, V6, e_r5, h⟩ := h
  refine r_callV (As := [tI x4]) C k_W_63 w_410 w_411 w_408 ⟨_, _, rfl⟩ (c_M_force l E base v2 x4 L V3 e_r5) d_W_law_503 e_n8 rfl ⟨Nat.le_of_ble_eq_true rfl, Nat.le_of_ble_eq_true rfl⟩ (Nat.le_of_ble_eq_true rfl) (show cells + 0 ≤ 601024 by omega) (show slots + 0 ≤ 7293034 by omega) rfl ?_
  refine r_icmp_eq C 859 d_W_law_506 (by decide) (fun c7 => ?_) (fun c7 => ?_)
  · rw [if_pos c7] at h
    refine r_wid (k := cells + 16) (n := slots + 100) (show cells + 0 ≤ cells + 16 by omega) (show slots + 0 ≤ slots + 100 by omega) ?_
    exact hK L V6 h
  · rw [if_neg c7] at h
    refine r_iconst C (0 : Int32) d_W_law_509 (by decide) ?_
    cases h
def D_L7 (Ln : Nat) (xs : Nat → Int32) (v1 v2 v3 : Nat) (v4 : Int32) (K : gL → gV → Option Unit) (L : gL) (V : gV) : Option Unit :=
  Option.bind (g_sx Ln xs (v4 + (1 : Int32))) fun x1 =>
    Option.bind ((L).2 3 v1) fun n9 =>
    g_b2 (D_A_build v1 x1 L V) fun r2 V3 =>
    Option.bind (g_sx Ln xs (v4 + (1 : Int32))) fun x4 =>
    Option.bind ((L).2 4 v2) fun n8 =>
    g_b2 (D_M_build v2 x4 L V3) fun r5 V6 =>
    (if r2 = r5 then
    K L V6
  else
    none)
set_option maxHeartbeats 4000000 in
set_option maxRecDepth 100000 in
theorem t_L7 (C : gC E base p s m args meth c b_W_law R_W 8) (hX : va_X b Ln xs s s.heap) (hbb : b < base ∧ base = s.heap.size) (hfl : l.flags = flags0) (hT : g_T sa base s) {v1 v2 v3 : Nat} {v4 : Int32} {cells slots : Nat} (hcl : cells + 16 ≤ 601024) (hsl : slots + 100 ≤ 7293034) {K : gL → gV → Option Unit} (hK : ∀ (L : gL) (V : gV), K L V = some () → vW E base base 8 p l e room_1 s m args below meth c (cells + 16) (slots + 100) Q L V 859 [(0, tR (some b)), (1, tR (some v1)), (2, tR (some v2)), (3, tR (some v3)), (4, tI v4)] []) (L : gL) (V : gV) (h : D_L7 Ln xs v1 v2 v3 v4 K L V = some ()) : vW E base base 8 p l e room_1 s m args below meth c cells slots Q L V 511 [(0, tR (some b)), (1, tR (some v1)), (2, tR (some v2)), (3, tR (some v3)), (4, tI v4)] [] := by
  unfold D_L7 at h
  refine r_aload_n (x := (some v1)) C d_W_law_511 rfl rfl ?_
  refine r_aload_n (x := (some b)) C d_W_law_512 rfl rfl ?_
  refine r_iload (x := v4) C d_W_law_513 rfl ?_
  refine r_iconst C (1 : Int32) d_W_law_515 (by decide) ?_
  refine r_iadd C d_W_law_516 ?_
  replace h := g_ob h; obtain ⟨x1, e_x1, h⟩ := h
  refine r_sld C hX hbb d_W_law_517 e_x1 ?_
  replace h := g_ob h; obtain ⟨n9, e_n9, h⟩ := h
  replace h := g_o2 h; obtain ⟨r2, V3, e_r2, h⟩ := h
  refine r_callV (As := [tI x1]) C k_W_64 w_420 w_421 w_414 ⟨_, _, rfl⟩ (c_A_build l E base v1 x1 L V e_r2) d_W_law_518 e_n9 rfl ⟨Nat.le_of_ble_eq_true rfl, Nat.le_of_ble_eq_true rfl⟩ (Nat.le_of_ble_eq_true rfl) (show cells + 0 ≤ 601024 by omega) (show slots + 0 ≤ 7293034 by omega) rfl ?_
  refine r_aload_n (x := (some v2)) C d_W_law_521 rfl rfl ?_
  refine r_aload_n (x := (some b)) C d_W_law_522 rfl rfl ?_
  refine r_iload (x := v4) C d_W_law_523 rfl ?_
  refine r_iconst C (1 : Int32) d_W_law_525 (by decide) ?_
  refine r_iadd C d_W_law_526 ?_
  replace h := g_ob h; obtain ⟨x4, e_x4, h⟩ := h
  refine r_sld C hX hbb d_W_law_527 e_x4 ?_
  replace h := g_ob h; obtain ⟨n8, e_n8, h⟩ := h
  replace h := g_o2 h; obtain ⟨r5, V6, e_r5, h⟩ := h
  refine r_callV (As := [tI x4]) C k_W_67 w_418 w_419 w_416 ⟨_, _, rfl⟩ (c_M_build l E base v2 x4 L V3 e_r5) d_W_law_528 e_n8 rfl ⟨Nat.le_of_ble_eq_true rfl, Nat.le_of_ble_eq_true rfl⟩ (Nat.le_of_ble_eq_true rfl) (show cells + 0 ≤ 601024 by omega) (show slots + 0 ≤ 7293034 by omega) rfl ?_
  refine r_icmp_eq C 859 d_W_law_531 (by decide) (fun c7 => ?_) (fun c7 => ?_)
  · rw [if_pos c7] at h
    refine r_wid (k := cells + 16) (n := slots + 100) (show cells + 0 ≤ cells + 16 by omega) (show slots + 0 ≤ slots + 100 by omega) ?_
    exact hK L V6 h
  · rw [if_neg c7] at h
    refine r_iconst C (0 : Int32) d_W_law_534 (by decide) ?_
    cases h
def D_L8 (Ln : Nat) (xs : Nat → Int32) (v1 v2 v3 : Nat) (v4 : Int32) (K : gL → gV → Option Unit) (L : gL) (V : gV) : Option Unit :=
  Option.bind (g_sx Ln xs (v4 + (1 : Int32))) fun x1 =>
    Option.bind ((L).2 3 v1) fun n9 =>
    g_b2 (D_A_state v1 x1 L V) fun r2 V3 =>
    Option.bind (g_sx Ln xs (v4 + (1 : Int32))) fun x4 =>
    Option.bind ((L).2 4 v2) fun n8 =>
    g_b2 (D_M_state v2 x4 L V3) fun r5 V6 =>
    (if r2 = r5 then
    K L V6
  else
    none)
set_option maxHeartbeats 4000000 in
set_option maxRecDepth 100000 in
theorem t_L8 (C : gC E base p s m args meth c b_W_law R_W 8) (hX : va_X b Ln xs s s.heap) (hbb : b < base ∧ base = s.heap.size) (hfl : l.flags = flags0) (hT : g_T sa base s) {v1 v2 v3 : Nat} {v4 : Int32} {cells slots : Nat} (hcl : cells + 16 ≤ 601024) (hsl : slots + 100 ≤ 7293034) {K : gL → gV → Option Unit} (hK : ∀ (L : gL) (V : gV), K L V = some () → vW E base base 8 p l e room_1 s m args below meth c (cells + 16) (slots + 100) Q L V 859 [(0, tR (some b)), (1, tR (some v1)), (2, tR (some v2)), (3, tR (some v3)), (4, tI v4)] []) (L : gL) (V : gV) (h : D_L8 Ln xs v1 v2 v3 v4 K L V = some ()) : vW E base base 8 p l e room_1 s m args below meth c cells slots Q L V 536 [(0, tR (some b)), (1, tR (some v1)), (2, tR (some v2)), (3, tR (some v3)), (4, tI v4)] [] := by
  unfold D_L8 at h
  refine r_aload_n (x := (some v1)) C d_W_law_536 rfl rfl ?_
  refine r_aload_n (x := (some b)) C d_W_law_537 rfl rfl ?_
  refine r_iload (x := v4) C d_W_law_538 rfl ?_
  refine r_iconst C (1 : Int32) d_W_law_540 (by decide) ?_
  refine r_iadd C d_W_law_541 ?_
  replace h := g_ob h; obtain ⟨x1, e_x1, h⟩ := h
  refine r_sld C hX hbb d_W_law_542 e_x1 ?_
  replace h := g_ob h; obtain ⟨n9, e_n9, h⟩ := h
  replace h := g_o2 h; obtain ⟨r2, V3, e_r2, h⟩ := h
  refine r_callV (As := [tI x1]) C k_W_68 w_428 w_429 w_422 ⟨_, _, rfl⟩ (c_A_state l E base base v1 x1 L V e_r2) d_W_law_543 e_n9 rfl ⟨Nat.le_of_ble_eq_true rfl, Nat.le_of_ble_eq_true rfl⟩ (Nat.le_of_ble_eq_true rfl) (show cells + 0 ≤ 601024 by omega) (show slots + 0 ≤ 7293034 by omega) rfl ?_
  refine r_aload_n (x := (some v2)) C d_W_law_546 rfl rfl ?_
  refine r_aload_n (x := (some b)) C d_W_law_547 rfl rfl ?_
  refine r_iload (x := v4) C d_W_law_548 rfl ?_
  refine r_iconst C (1 : Int32) d_W_law_550 (by decide) ?_
  refine r_iadd C d_W_law_551 ?_
  replace h := g_ob h; obtain ⟨x4, e_x4, h⟩ := h
  refine r_sld C hX hbb d_W_law_552 e_x4 ?_
  replace h := g_ob h; obtain ⟨n8, e_n8, h⟩ := h
  replace h := g_o2 h; obtain ⟨r5, V6, e_r5, h⟩ := h
  refine r_callV (As := [tI x4]) C k_W_71 w_426 w_427 w_424 ⟨_, _, rfl⟩ (c_M_state l E base v2 x4 L V3 e_r5) d_W_law_553 e_n8 rfl ⟨Nat.le_of_ble_eq_true rfl, Nat.le_of_ble_eq_true rfl⟩ (Nat.le_of_ble_eq_true rfl) (show cells + 0 ≤ 601024 by omega) (show slots + 0 ≤ 7293034 by omega) rfl ?_
  refine r_icmp_eq C 859 d_W_law_556 (by decide) (fun c7 => ?_) (fun c7 => ?_)
  · rw [if_pos c7] at h
    refine r_wid (k := cells + 16) (n := slots + 100) (show cells + 0 ≤ cells + 16 by omega) (show slots + 0 ≤ slots + 100 by omega) ?_
    exact hK L V6 h
  · rw [if_neg c7] at h
    refine r_iconst C (0 : Int32) d_W_law_559 (by decide) ?_
    cases h
def D_L9 (Ln : Nat) (xs : Nat → Int32) (v1 v2 v3 : Nat) (v4 : Int32) (K : gL → gV → Option Unit) (L : gL) (V : gV) : Option Unit :=
  Option.bind (g_sx Ln xs (v4 + (1 : Int32))) fun x1 =>
    Option.bind ((L).2 3 v1) fun n9 =>
    g_b2 (D_A_cause v1 x1 L V) fun r2 V3 =>
    Option.bind (g_sx Ln xs (v4 + (1 : Int32))) fun x4 =>
    Option.bind ((L).2 4 v2) fun n8 =>
    g_b2 (D_M_cause v2 x4 L V3) fun r5 V6 =>
    (if r2 = r5 then
    K L V6
  else
    none)
set_option maxHeartbeats 4000000 in
set_option maxRecDepth 100000 in
theorem t_L9 (C : gC E base p s m args meth c b_W_law R_W 8) (hX : va_X b Ln xs s s.heap) (hbb : b < base ∧ base = s.heap.size) (hfl : l.flags = flags0) (hT : g_T sa base s) {v1 v2 v3 : Nat} {v4 : Int32} {cells slots : Nat} (hcl : cells + 16 ≤ 601024) (hsl : slots + 100 ≤ 7293034) {K : gL → gV → Option Unit} (hK : ∀ (L : gL) (V : gV), K L V = some () → vW E base base 8 p l e room_1 s m args below meth c (cells + 16) (slots + 100) Q L V 859 [(0, tR (some b)), (1, tR (some v1)), (2, tR (some v2)), (3, tR (some v3)), (4, tI v4)] []) (L : gL) (V : gV) (h : D_L9 Ln xs v1 v2 v3 v4 K L V = some ()) : vW E base base 8 p l e room_1 s m args below meth c cells slots Q L V 561 [(0, tR (some b)), (1, tR (some v1)), (2, tR (some v2)), (3, tR (some v3)), (4, tI v4)] [] := by
  unfold D_L9 at h
  refine r_aload_n (x := (some v1)) C d_W_law_561 rfl rfl ?_
  refine r_aload_n (x := (some b)) C d_W_law_562 rfl rfl ?_
  refine r_iload (x := v4) C d_W_law_563 rfl ?_
  refine r_iconst C (1 : Int32) d_W_law_565 (by decide) ?_
  refine r_iadd C d_W_law_566 ?_
  replace h := g_ob h; obtain ⟨x1, e_x1, h⟩ := h
  refine r_sld C hX hbb d_W_law_567 e_x1 ?_
  replace h := g_ob h; obtain ⟨n9, e_n9, h⟩ := h
  replace h := g_o2 h; obtain ⟨r2, V3, e_r2, h⟩ := h
  refine r_callV (As := [tI x1]) C k_W_72 w_436 w_437 w_430 ⟨_, _, rfl⟩ (c_A_cause l E base base v1 x1 L V e_r2) d_W_law_568 e_n9 rfl ⟨Nat.le_of_ble_eq_true rfl, Nat.le_of_ble_eq_true rfl⟩ (Nat.le_of_ble_eq_true rfl) (show cells + 0 ≤ 601024 by omega) (show slots + 0 ≤ 7293034 by omega) rfl ?_
  refine r_aload_n (x := (some v2)) C d_W_law_571 rfl rfl ?_
  refine r_aload_n (x := (some b)) C d_W_law_572 rfl rfl ?_
  refine r_iload (x := v4) C d_W_law_573 rfl ?_
  refine r_iconst C (1 : Int32) d_W_law_575 (by decide) ?_
  refine r_iadd C d_W_law_576 ?_
  replace h := g_ob h; obtain ⟨x4, e_x4, h⟩ := h
  refine r_sld C hX hbb d_W_law_577 e_x4 ?_
  replace h := g_ob h; obtain ⟨n8, e_n8, h⟩ := h
  replace h := g_o2 h; obtain ⟨r5, V6, e_r5, h⟩ := h
  refine r_callV (As := [tI x4]) C k_W_75 w_434 w_435 w_432 ⟨_, _, rfl⟩ (c_M_cause l E base v2 x4 L V3 e_r5) d_W_law_578 e_n8 rfl ⟨Nat.le_of_ble_eq_true rfl, Nat.le_of_ble_eq_true rfl⟩ (Nat.le_of_ble_eq_true rfl) (show cells + 0 ≤ 601024 by omega) (show slots + 0 ≤ 7293034 by omega) rfl ?_
  refine r_icmp_eq C 859 d_W_law_581 (by decide) (fun c7 => ?_) (fun c7 => ?_)
  · rw [if_pos c7] at h
    refine r_wid (k := cells + 16) (n := slots + 100) (show cells + 0 ≤ cells + 16 by omega) (show slots + 0 ≤ slots + 100 by omega) ?_
    exact hK L V6 h
  · rw [if_neg c7] at h
    refine r_iconst C (0 : Int32) d_W_law_584 (by decide) ?_
    cases h
def D_L10 (Ln : Nat) (xs : Nat → Int32) (v1 v2 v3 : Nat) (v4 : Int32) (K : gL → gV → Option Unit) (L : gL) (V : gV) : Option Unit :=
  Option.bind (g_sx Ln xs (v4 + (1 : Int32))) fun x1 =>
    Option.bind ((L).2 3 v1) fun n9 =>
    g_b2 (D_A_counted v1 x1 L V) fun r2 V3 =>
    Option.bind (g_sx Ln xs (v4 + (1 : Int32))) fun x4 =>
    Option.bind ((L).2 4 v2) fun n8 =>
    g_b2 (D_M_counted v2 x4 L V3) fun r5 V6 =>
    (if r2 = r5 then
    K L V6
  else
    none)
set_option maxHeartbeats 4000000 in
set_option maxRecDepth 100000 in
theorem t_L10 (C : gC E base p s m args meth c b_W_law R_W 8) (hX : va_X b Ln xs s s.heap) (hbb : b < base ∧ base = s.heap.size) (hfl : l.flags = flags0) (hT : g_T sa base s) {v1 v2 v3 : Nat} {v4 : Int32} {cells slots : Nat} (hcl : cells + 16 ≤ 601024) (hsl : slots + 100 ≤ 7293034) {K : gL → gV → Option Unit} (hK : ∀ (L : gL) (V : gV), K L V = some () → vW E base base 8 p l e room_1 s m args below meth c (cells + 16) (slots + 100) Q L V 859 [(0, tR (some b)), (1, tR (some v1)), (2, tR (some v2)), (3, tR (some v3)), (4, tI v4)] []) (L : gL) (V : gV) (h : D_L10 Ln xs v1 v2 v3 v4 K L V = some ()) : vW E base base 8 p l e room_1 s m args below meth c cells slots Q L V 586 [(0, tR (some b)), (1, tR (some v1)), (2, tR (some v2)), (3, tR (some v3)), (4, tI v4)] [] := by
  unfold D_L10 at h
  refine r_aload_n (x := (some v1)) C d_W_law_586 rfl rfl ?_
  refine r_aload_n (x := (some b)) C d_W_law_587 rfl rfl ?_
  refine r_iload (x := v4) C d_W_law_588 rfl ?_
  refine r_iconst C (1 : Int32) d_W_law_590 (by decide) ?_
  refine r_iadd C d_W_law_591 ?_
  replace h := g_ob h; obtain ⟨x1, e_x1, h⟩ := h
  refine r_sld C hX hbb d_W_law_592 e_x1 ?_
  replace h := g_ob h; obtain ⟨n9, e_n9, h⟩ := h
  replace h := g_o2 h; obtain ⟨r2, V3, e_r2, h⟩ := h
  refine r_callV (As := [tI x1]) C k_W_76 w_444 w_445 w_438 ⟨_, _, rfl⟩ (c_A_counted l E base base v1 x1 L V e_r2) d_W_law_593 e_n9 rfl ⟨Nat.le_of_ble_eq_true rfl, Nat.le_of_ble_eq_true rfl⟩ (Nat.le_of_ble_eq_true rfl) (show cells + 0 ≤ 601024 by omega) (show slots + 0 ≤ 7293034 by omega) rfl ?_
  refine r_aload_n (x := (some v2)) C d_W_law_596 rfl rfl ?_
  refine r_aload_n (x := (some b)) C d_W_law_597 rfl rfl ?_
  refine r_iload (x := v4) C d_W_law_598 rfl ?_
  refine r_iconst C (1 : Int32) d_W_law_600 (by decide) ?_
  refine r_iadd C d_W_law_601 ?_
  replace h := g_ob h; obtain ⟨x4, e_x4, h⟩ := h
  refine r_sld C hX hbb d_W_law_602 e_x4 ?_
  replace h := g_ob h; obtain ⟨n8, e_n8, h⟩ := h
  replace h := g_o2 h; obtain ⟨r5, V6, e_r5, h⟩ := h
  refine r_callV (As := [tI x4]) C k_W_79 w_442 w_443 w_440 ⟨_, _, rfl⟩ (c_M_counted l E base v2 x4 L V3 e_r5) d_W_law_603 e_n8 rfl ⟨Nat.le_of_ble_eq_true rfl, Nat.le_of_ble_eq_true rfl⟩ (Nat.le_of_ble_eq_true rfl) (show cells + 0 ≤ 601024 by omega) (show slots + 0 ≤ 7293034 by omega) rfl ?_
  refine r_icmp_eq C 859 d_W_law_606 (by decide) (fun c7 => ?_) (fun c7 => ?_)
  · rw [if_pos c7] at h
    refine r_wid (k := cells + 16) (n := slots + 100) (show cells + 0 ≤ cells + 16 by omega) (show slots + 0 ≤ slots + 100 by omega) ?_
    exact hK L V6 h
  · rw [if_neg c7] at h
    refine r_iconst C (0 : Int32) d_W_law_609 (by decide) ?_
    cases h
def D_L11 (Ln : Nat) (xs : Nat → Int32) (v1 v2 v3 : Nat) (v4 : Int32) (K : gL → gV → Option Unit) (L : gL) (V : gV) : Option Unit :=
  Option.bind (g_sx Ln xs (v4 + (1 : Int32))) fun x1 =>
    Option.bind (g_sx Ln xs (v4 + (2 : Int32))) fun x2 =>
    g_b3 (D_W_output v1 x1 x2 v3 L V) fun r3 L5 V4 =>
    Option.bind (g_sx Ln xs (v4 + (1 : Int32))) fun x6 =>
    Option.bind (g_sx Ln xs (v4 + (2 : Int32))) fun x7 =>
    Option.bind ((L5).2 4 v2) fun n17 =>
    g_b2 (D_M_output v2 x6 x7 L5 V4) fun r8 V9 =>
    Option.bind ((L5).2 4 v2) fun n16 =>
    g_b2 (D_M_thrown v2 L5 V9) fun r10 V11 =>
    (if r10 = r3 then
    (if r3 = 0 then
    Option.bind (g_aJ L5 V11 101 v3 (0 : Int32)) fun x12 =>
    (if (lg_cmp x12 r8) = 0 then
    K L5 V11
  else
    none)
  else
    K L5 V11)
  else
    none)
set_option maxHeartbeats 4000000 in
set_option maxRecDepth 100000 in
theorem t_L11 (C : gC E base p s m args meth c b_W_law R_W 8) (hX : va_X b Ln xs s s.heap) (hbb : b < base ∧ base = s.heap.size) (hfl : l.flags = flags0) (hT : g_T sa base s) {v1 v2 v3 : Nat} {v4 : Int32} {cells slots : Nat} (hcl : cells + 16 ≤ 601024) (hsl : slots + 100 ≤ 7293034) {K : gL → gV → Option Unit} (hK : ∀ (L : gL) (V : gV), K L V = some () → vW E base base 8 p l e room_1 s m args below meth c (cells + 16) (slots + 100) Q L V 859 [(0, tR (some b)), (1, tR (some v1)), (2, tR (some v2)), (3, tR (some v3)), (4, tI v4)] []) (L : gL) (V : gV) (h : D_L11 Ln xs v1 v2 v3 v4 K L V = some ()) : vW E base base 8 p l e room_1 s m args below meth c cells slots Q L V 611 [(0, tR (some b)), (1, tR (some v1)), (2, tR (some v2)), (3, tR (some v3)), (4, tI v4)] [] := by
  unfold D_L11 at h
  refine r_aload_n (x := (some v1)) C d_W_law_611 rfl rfl ?_
  refine r_aload_n (x := (some b)) C d_W_law_612 rfl rfl ?_
  refine r_iload (x := v4) C d_W_law_613 rfl ?_
  refine r_iconst C (1 : Int32) d_W_law_615 (by decide) ?_
  refine r_iadd C d_W_law_616 ?_
  replace h := g_ob h; obtain ⟨x1, e_x1, h⟩ := h
  refine r_sld C hX hbb d_W_law_617 e_x1 ?_
  refine r_aload_n (x := (some b)) C d_W_law_618 rfl rfl ?_
  refine r_iload (x := v4) C d_W_law_619 rfl ?_
  refine r_iconst C (2 : Int32) d_W_law_621 (by decide) ?_
  refine r_iadd C d_W_law_622 ?_
  replace h := g_ob h; obtain ⟨x2, e_x2, h⟩ := h
  refine r_sld C hX hbb d_W_law_623 e_x2 ?_
  refine r_aload_n (x := (some v3)) C d_W_law_624 rfl rfl ?_
  replace h := g_o3 h; obtain ⟨r3, L5, V4, e_r3, h⟩ := h
  refine r_callSW (As := [tR (some v1), tI x1, tI x2, tR (some v3)]) C hT k_W_80 w_457 w_446 (c_W_output l hfl E base sa v1 x1 x2 v3 L V e_r3) d_W_law_625 rfl ⟨Nat.le_of_ble_eq_true rfl, Nat.le_of_ble_eq_true rfl⟩ (Nat.le_of_ble_eq_true rfl) (show cells + 1 ≤ 601024 by omega) (show slots + 6 ≤ 7293034 by omega) rfl ?_
  refine r_istore (lv' := [(5, tI r3), (0, tR (some b)), (1, tR (some v1)), (2, tR (some v2)), (3, tR (some v3)), (4, tI v4)]) C d_W_law_628 (by decide) rfl ?_
  refine r_aload_n (x := (some v2)) C d_W_law_630 rfl rfl ?_
  refine r_aload_n (x := (some b)) C d_W_law_631 rfl rfl ?_
  refine r_iload (x := v4) C d_W_law_632 rfl ?_
  refine r_iconst C (1 : Int32) d_W_law_634 (by decide) ?_
  refine r_iadd C d_W_law_635 ?_
  replace h := g_ob h; obtain ⟨x6, e_x6, h⟩ := h
  refine r_sld C hX hbb d_W_law_636 e_x6 ?_
  refine r_aload_n (x := (some b)) C d_W_law_637 rfl rfl ?_
  refine r_iload (x := v4) C d_W_law_638 rfl ?_
  refine r_iconst C (2 : Int32) d_W_law_640 (by decide) ?_
  refine r_iadd C d_W_law_641 ?_
  replace h := g_ob h; obtain ⟨x7, e_x7, h⟩ := h
  refine r_sld C hX hbb d_W_law_642 e_x7 ?_
  replace h := g_ob h; obtain ⟨n17, e_n17, h⟩ := h
  replace h := g_o2 h; obtain ⟨r8, V9, e_r8, h⟩ := h
  refine r_callV (As := [tI x6, tI x7]) C k_W_85 w_455 w_456 w_449 ⟨_, _, rfl⟩ (c_M_output l E base v2 x6 x7 L5 V4 e_r8) d_W_law_643 e_n17 rfl ⟨Nat.le_of_ble_eq_true rfl, Nat.le_of_ble_eq_true rfl⟩ (Nat.le_of_ble_eq_true rfl) (show cells + 1 ≤ 601024 by omega) (show slots + 6 ≤ 7293034 by omega) rfl ?_
  refine r_lstore (lv' := [(6, tJ r8), (5, tI r3), (0, tR (some b)), (1, tR (some v1)), (2, tR (some v2)), (3, tR (some v3)), (4, tI v4)]) C d_W_law_646 (by decide) rfl ?_
  refine r_aload_n (x := (some v2)) C d_W_law_648 rfl rfl ?_
  replace h := g_ob h; obtain ⟨n16, e_n16, h⟩ := h
  replace h := g_o2 h; obtain ⟨r10, V11, e_r10, h⟩ := h
  refine r_callV (As := []) C k_W_86 w_453 w_454 w_451 ⟨_, _, rfl⟩ (c_M_thrown l E base base v2 L5 V9 e_r10) d_W_law_649 e_n16 rfl ⟨Nat.le_of_ble_eq_true rfl, Nat.le_of_ble_eq_true rfl⟩ (Nat.le_of_ble_eq_true rfl) (show cells + 1 ≤ 601024 by omega) (show slots + 6 ≤ 7293034 by omega) rfl ?_
  refine r_iload (x := r3) C d_W_law_652 rfl ?_
  refine r_icmp_eq C 659 d_W_law_654 (by decide) (fun c15 => ?_) (fun c15 => ?_)
  · rw [if_pos c15] at h
    refine r_iload (x := r3) C d_W_law_659 rfl ?_
    refine r_if_ne C 675 d_W_law_661 (by decide) (fun c14 => ?_) (fun c14 => ?_)
    · rw [if_neg c14] at h
      refine r_goto C 859 d_W_law_675 (by decide) ?_
      refine r_lv [2, 3, 4, 5, 6] rfl ?_
      refine r_wid (k := cells + 16) (n := slots + 100) (show cells + 1 ≤ cells + 16 by omega) (show slots + 6 ≤ slots + 100 by omega) ?_
      exact hK L5 V11 h
    · rw [if_pos c14] at h
      refine r_aload_n (x := (some v3)) C d_W_law_664 rfl rfl ?_
      refine r_iconst C (0 : Int32) d_W_law_665 (by decide) ?_
      replace h := g_ob h; obtain ⟨x12, e_x12, h⟩ := h
      refine r_lald C ak_101 d_W_law_666 e_x12 ?_
      refine r_lload (x := r8) C d_W_law_667 rfl ?_
      refine r_lcmp C d_W_law_669 ?_
      refine r_if_eq C 675 d_W_law_670 (by decide) (fun c13 => ?_) (fun c13 => ?_)
      · rw [if_pos c13] at h
        refine r_goto C 859 d_W_law_675 (by decide) ?_
        refine r_lv [2, 3, 4, 5, 6] rfl ?_
        refine r_wid (k := cells + 16) (n := slots + 100) (show cells + 1 ≤ cells + 16 by omega) (show slots + 6 ≤ slots + 100 by omega) ?_
        exact hK L5 V11 h
      · rw [if_neg c13] at h
        refine r_iconst C (0 : Int32) d_W_law_673 (by decide) ?_
        cases h
  · rw [if_neg c15] at h
    refine r_iconst C (0 : Int32) d_W_law_657 (by decide) ?_
    cases h
def D_L12 (Ln : Nat) (xs : Nat → Int32) (v1 v2 v3 : Nat) (v4 : Int32) (K : gL → gV → Option Unit) (L : gL) (V : gV) : Option Unit :=
  Option.bind (g_sx Ln xs (v4 + (1 : Int32))) fun x1 =>
    Option.bind ((L).2 3 v1) fun n9 =>
    g_b2 (D_A_records v1 x1 L V) fun r2 V3 =>
    Option.bind (g_sx Ln xs (v4 + (1 : Int32))) fun x4 =>
    Option.bind ((L).2 4 v2) fun n8 =>
    g_b2 (D_M_records v2 x4 L V3) fun r5 V6 =>
    (if r2 = r5 then
    K L V6
  else
    none)
set_option maxHeartbeats 4000000 in
set_option maxRecDepth 100000 in
theorem t_L12 (C : gC E base p s m args meth c b_W_law R_W 8) (hX : va_X b Ln xs s s.heap) (hbb : b < base ∧ base = s.heap.size) (hfl : l.flags = flags0) (hT : g_T sa base s) {v1 v2 v3 : Nat} {v4 : Int32} {cells slots : Nat} (hcl : cells + 16 ≤ 601024) (hsl : slots + 100 ≤ 7293034) {K : gL → gV → Option Unit} (hK : ∀ (L : gL) (V : gV), K L V = some () → vW E base base 8 p l e room_1 s m args below meth c (cells + 16) (slots + 100) Q L V 859 [(0, tR (some b)), (1, tR (some v1)), (2, tR (some v2)), (3, tR (some v3)), (4, tI v4)] []) (L : gL) (V : gV) (h : D_L12 Ln xs v1 v2 v3 v4 K L V = some ()) : vW E base base 8 p l e room_1 s m args below meth c cells slots Q L V 678 [(0, tR (some b)), (1, tR (some v1)), (2, tR (some v2)), (3, tR (some v3)), (4, tI v4)] [] := by
  unfold D_L12 at h
  refine r_aload_n (x := (some v1)) C d_W_law_678 rfl rfl ?_
  refine r_aload_n (x := (some b)) C d_W_law_679 rfl rfl ?_
  refine r_iload (x := v4) C d_W_law_680 rfl ?_
  refine r_iconst C (1 : Int32) d_W_law_682 (by decide) ?_
  refine r_iadd C d_W_law_683 ?_
  replace h := g_ob h; obtain ⟨x1, e_x1, h⟩ := h
  refine r_sld C hX hbb d_W_law_684 e_x1 ?_
  replace h := g_ob h; obtain ⟨n9, e_n9, h⟩ := h
  replace h := g_o2 h; obtain ⟨r2, V3, e_r2, h⟩ := h
  refine r_callV (As := [tI x1]) C k_W_89 w_464 w_465 w_458 ⟨_, _, rfl⟩ (c_A_records l E base base v1 x1 L V e_r2) d_W_law_685 e_n9 rfl ⟨Nat.le_of_ble_eq_true rfl, Nat.le_of_ble_eq_true rfl⟩ (Nat.le_of_ble_eq_true rfl) (show cells + 0 ≤ 601024 by omega) (show slots + 0 ≤ 7293034 by omega) rfl ?_
  refine r_aload_n (x := (some v2)) C d_W_law_688 rfl rfl ?_
  refine r_aload_n (x := (some b)) C d_W_law_689 rfl rfl ?_
  refine r_iload (x := v4) C d_W_law_690 rfl ?_
  refine r_iconst C (1 : Int32) d_W_law_692 (by decide) ?_
  refine r_iadd C d_W_law_693 ?_
  replace h := g_ob h; obtain ⟨x4, e_x4, h⟩ := h
  refine r_sld C hX hbb d_W_law_694 e_x4 ?_
  replace h := g_ob h; obtain ⟨n8, e_n8, h⟩ := h
  replace h := g_o2 h; obtain ⟨r5, V6, e_r5, h⟩ := h
  refine r_callV (As := [tI x4]) C k_W_92 w_462 w_463 w_460 ⟨_, _, rfl⟩ (c_M_records l E base v2 x4 L V3 e_r5) d_W_law_695 e_n8 rfl ⟨Nat.le_of_ble_eq_true rfl, Nat.le_of_ble_eq_true rfl⟩ (Nat.le_of_ble_eq_true rfl) (show cells + 0 ≤ 601024 by omega) (show slots + 0 ≤ 7293034 by omega) rfl ?_
  refine r_icmp_eq C 859 d_W_law_698 (by decide) (fun c7 => ?_) (fun c7 => ?_)
  · rw [if_pos c7] at h
    refine r_wid (k := cells + 16) (n := slots + 100) (show cells + 0 ≤ cells + 16 by omega) (show slots + 0 ≤ slots + 100 by omega) ?_
    exact hK L V6 h
  · rw [if_neg c7] at h
    refine r_iconst C (0 : Int32) d_W_law_701 (by decide) ?_
    cases h
def D_L13 (Ln : Nat) (xs : Nat → Int32) (v1 v2 v3 : Nat) (v4 : Int32) (K : gL → gV → Option Unit) (L : gL) (V : gV) : Option Unit :=
  Option.bind (g_sx Ln xs (v4 + (1 : Int32))) fun x1 =>
    Option.bind (g_sx Ln xs (v4 + (2 : Int32))) fun x2 =>
    Option.bind (g_sx Ln xs (v4 + (3 : Int32))) fun x3 =>
    Option.bind ((L).2 3 v1) fun n13 =>
    g_b2 (D_A_record v1 x1 x2 x3 L V) fun r4 V5 =>
    Option.bind (g_sx Ln xs (v4 + (1 : Int32))) fun x6 =>
    Option.bind (g_sx Ln xs (v4 + (2 : Int32))) fun x7 =>
    Option.bind (g_sx Ln xs (v4 + (3 : Int32))) fun x8 =>
    Option.bind ((L).2 4 v2) fun n12 =>
    g_b2 (D_M_record v2 x6 x7 x8 L V5) fun r9 V10 =>
    (if (lg_cmp r4 r9) = 0 then
    K L V10
  else
    none)
set_option maxHeartbeats 4000000 in
set_option maxRecDepth 100000 in
theorem t_L13 (C : gC E base p s m args meth c b_W_law R_W 8) (hX : va_X b Ln xs s s.heap) (hbb : b < base ∧ base = s.heap.size) (hfl : l.flags = flags0) (hT : g_T sa base s) {v1 v2 v3 : Nat} {v4 : Int32} {cells slots : Nat} (hcl : cells + 16 ≤ 601024) (hsl : slots + 100 ≤ 7293034) {K : gL → gV → Option Unit} (hK : ∀ (L : gL) (V : gV), K L V = some () → vW E base base 8 p l e room_1 s m args below meth c (cells + 16) (slots + 100) Q L V 859 [(0, tR (some b)), (1, tR (some v1)), (2, tR (some v2)), (3, tR (some v3)), (4, tI v4)] []) (L : gL) (V : gV) (h : D_L13 Ln xs v1 v2 v3 v4 K L V = some ()) : vW E base base 8 p l e room_1 s m args below meth c cells slots Q L V 703 [(0, tR (some b)), (1, tR (some v1)), (2, tR (some v2)), (3, tR (some v3)), (4, tI v4)] [] := by
  unfold D_L13 at h
  refine r_aload_n (x := (some v1)) C d_W_law_703 rfl rfl ?_
  refine r_aload_n (x := (some b)) C d_W_law_704 rfl rfl ?_
  refine r_iload (x := v4) C d_W_law_705 rfl ?_
  refine r_iconst C (1 : Int32) d_W_law_707 (by decide) ?_
  refine r_iadd C d_W_law_708 ?_
  replace h := g_ob h; obtain ⟨x1, e_x1, h⟩ := h
  refine r_sld C hX hbb d_W_law_709 e_x1 ?_
  refine r_aload_n (x := (some b)) C d_W_law_710 rfl rfl ?_
  refine r_iload (x := v4) C d_W_law_711 rfl ?_
  refine r_iconst C (2 : Int32) d_W_law_713 (by decide) ?_
  refine r_iadd C d_W_law_714 ?_
  replace h := g_ob h; obtain ⟨x2, e_x2, h⟩ := h
  refine r_sld C hX hbb d_W_law_715 e_x2 ?_
  refine r_aload_n (x := (some b)) C d_W_law_716 rfl rfl ?_
  refine r_iload (x := v4) C d_W_law_717 rfl ?_
  refine r_iconst C (3 : Int32) d_W_law_719 (by decide) ?_
  refine r_iadd C d_W_law_720 ?_
  replace h := g_ob h; obtain ⟨x3, e_x3, h⟩ := h
  refine r_sld C hX hbb d_W_law_721 e_x3 ?_
  replace h := g_ob h; obtain ⟨n13, e_n13, h⟩ := h
  replace h := g_o2 h; obtain ⟨r4, V5, e_r4, h⟩ := h
  refine r_callV (As := [tI x1, tI x2, tI x3]) C k_W_93 w_472 w_473 w_466 ⟨_, _, rfl⟩ (c_A_record l E base base v1 x1 x2 x3 L V e_r4) d_W_law_722 e_n13 rfl ⟨Nat.le_of_ble_eq_true rfl, Nat.le_of_ble_eq_true rfl⟩ (Nat.le_of_ble_eq_true rfl) (show cells + 0 ≤ 601024 by omega) (show slots + 0 ≤ 7293034 by omega) rfl ?_
  refine r_aload_n (x := (some v2)) C d_W_law_725 rfl rfl ?_
  refine r_aload_n (x := (some b)) C d_W_law_726 rfl rfl ?_
  refine r_iload (x := v4) C d_W_law_727 rfl ?_
  refine r_iconst C (1 : Int32) d_W_law_729 (by decide) ?_
  refine r_iadd C d_W_law_730 ?_
  replace h := g_ob h; obtain ⟨x6, e_x6, h⟩ := h
  refine r_sld C hX hbb d_W_law_731 e_x6 ?_
  refine r_aload_n (x := (some b)) C d_W_law_732 rfl rfl ?_
  refine r_iload (x := v4) C d_W_law_733 rfl ?_
  refine r_iconst C (2 : Int32) d_W_law_735 (by decide) ?_
  refine r_iadd C d_W_law_736 ?_
  replace h := g_ob h; obtain ⟨x7, e_x7, h⟩ := h
  refine r_sld C hX hbb d_W_law_737 e_x7 ?_
  refine r_aload_n (x := (some b)) C d_W_law_738 rfl rfl ?_
  refine r_iload (x := v4) C d_W_law_739 rfl ?_
  refine r_iconst C (3 : Int32) d_W_law_741 (by decide) ?_
  refine r_iadd C d_W_law_742 ?_
  replace h := g_ob h; obtain ⟨x8, e_x8, h⟩ := h
  refine r_sld C hX hbb d_W_law_743 e_x8 ?_
  replace h := g_ob h; obtain ⟨n12, e_n12, h⟩ := h
  replace h := g_o2 h; obtain ⟨r9, V10, e_r9, h⟩ := h
  refine r_callV (As := [tI x6, tI x7, tI x8]) C k_W_97 w_470 w_471 w_468 ⟨_, _, rfl⟩ (c_M_record l E base v2 x6 x7 x8 L V5 e_r9) d_W_law_744 e_n12 rfl ⟨Nat.le_of_ble_eq_true rfl, Nat.le_of_ble_eq_true rfl⟩ (Nat.le_of_ble_eq_true rfl) (show cells + 0 ≤ 601024 by omega) (show slots + 0 ≤ 7293034 by omega) rfl ?_
  refine r_lcmp C d_W_law_747 ?_
  refine r_if_eq C 859 d_W_law_748 (by decide) (fun c11 => ?_) (fun c11 => ?_)
  · rw [if_pos c11] at h
    refine r_wid (k := cells + 16) (n := slots + 100) (show cells + 0 ≤ cells + 16 by omega) (show slots + 0 ≤ slots + 100 by omega) ?_
    exact hK L V10 h
  · rw [if_neg c11] at h
    refine r_iconst C (0 : Int32) d_W_law_751 (by decide) ?_
    cases h
def D_L14 (Ln : Nat) (xs : Nat → Int32) (v1 v2 v3 : Nat) (v4 : Int32) (K : gL → gV → Option Unit) (L : gL) (V : gV) : Option Unit :=
  Option.bind (g_sx Ln xs (v4 + (1 : Int32))) fun x1 =>
    Option.bind (g_sx Ln xs (v4 + (2 : Int32))) fun x2 =>
    Option.bind ((L).2 3 v1) fun n11 =>
    g_b2 (D_A_failed v1 x1 x2 L V) fun r3 V4 =>
    Option.bind (g_sx Ln xs (v4 + (1 : Int32))) fun x5 =>
    Option.bind (g_sx Ln xs (v4 + (2 : Int32))) fun x6 =>
    Option.bind ((L).2 4 v2) fun n10 =>
    g_b2 (D_M_failed v2 x5 x6 L V4) fun r7 V8 =>
    (if r3 = r7 then
    K L V8
  else
    none)
set_option maxHeartbeats 4000000 in
set_option maxRecDepth 100000 in
theorem t_L14 (C : gC E base p s m args meth c b_W_law R_W 8) (hX : va_X b Ln xs s s.heap) (hbb : b < base ∧ base = s.heap.size) (hfl : l.flags = flags0) (hT : g_T sa base s) {v1 v2 v3 : Nat} {v4 : Int32} {cells slots : Nat} (hcl : cells + 16 ≤ 601024) (hsl : slots + 100 ≤ 7293034) {K : gL → gV → Option Unit} (hK : ∀ (L : gL) (V : gV), K L V = some () → vW E base base 8 p l e room_1 s m args below meth c (cells + 16) (slots + 100) Q L V 859 [(0, tR (some b)), (1, tR (some v1)), (2, tR (some v2)), (3, tR (some v3)), (4, tI v4)] []) (L : gL) (V : gV) (h : D_L14 Ln xs v1 v2 v3 v4 K L V = some ()) : vW E base base 8 p l e room_1 s m args below meth c cells slots Q L V 753 [(0, tR (some b)), (1, tR (some v1)), (2, tR (some v2)), (3, tR (some v3)), (4, tI v4)] [] := by
  unfold D_L14 at h
  refine r_aload_n (x := (some v1)) C d_W_law_753 rfl rfl ?_
  refine r_aload_n (x := (some b)) C d_W_law_754 rfl rfl ?_
  refine r_iload (x := v4) C d_W_law_755 rfl ?_
  refine r_iconst C (1 : Int32) d_W_law_757 (by decide) ?_
  refine r_iadd C d_W_law_758 ?_
  replace h := g_ob h; obtain ⟨x1, e_x1, h⟩ := h
  refine r_sld C hX hbb d_W_law_759 e_x1 ?_
  refine r_aload_n (x := (some b)) C d_W_law_760 rfl rfl ?_
  refine r_iload (x := v4) C d_W_law_761 rfl ?_
  refine r_iconst C (2 : Int32) d_W_law_763 (by decide) ?_
  refine r_iadd C d_W_law_764 ?_
  replace h := g_ob h; obtain ⟨x2, e_x2, h⟩ := h
  refine r_sld C hX hbb d_W_law_765 e_x2 ?_
  replace h := g_ob h; obtain ⟨n11, e_n11, h⟩ := h
  replace h := g_o2 h; obtain ⟨r3, V4, e_r3, h⟩ := h
  refine r_callV (As := [tI x1, tI x2]) C k_W_98 w_480 w_481 w_474 ⟨_, _, rfl⟩ (c_A_failed l E base base v1 x1 x2 L V e_r3) d_W_law_766 e_n11 rfl ⟨Nat.le_of_ble_eq_true rfl, Nat.le_of_ble_eq_true rfl⟩ (Nat.le_of_ble_eq_true rfl) (show cells + 0 ≤ 601024 by omega) (show slots + 0 ≤ 7293034 by omega) rfl ?_
  refine r_aload_n (x := (some v2)) C d_W_law_769 rfl rfl ?_
  refine r_aload_n (x := (some b)) C d_W_law_770 rfl rfl ?_
  refine r_iload (x := v4) C d_W_law_771 rfl ?_
  refine r_iconst C (1 : Int32) d_W_law_773 (by decide) ?_
  refine r_iadd C d_W_law_774 ?_
  replace h := g_ob h; obtain ⟨x5, e_x5, h⟩ := h
  refine r_sld C hX hbb d_W_law_775 e_x5 ?_
  refine r_aload_n (x := (some b)) C d_W_law_776 rfl rfl ?_
  refine r_iload (x := v4) C d_W_law_777 rfl ?_
  refine r_iconst C (2 : Int32) d_W_law_779 (by decide) ?_
  refine r_iadd C d_W_law_780 ?_
  replace h := g_ob h; obtain ⟨x6, e_x6, h⟩ := h
  refine r_sld C hX hbb d_W_law_781 e_x6 ?_
  replace h := g_ob h; obtain ⟨n10, e_n10, h⟩ := h
  replace h := g_o2 h; obtain ⟨r7, V8, e_r7, h⟩ := h
  refine r_callV (As := [tI x5, tI x6]) C k_W_102 w_478 w_479 w_476 ⟨_, _, rfl⟩ (c_M_failed l E base v2 x5 x6 L V4 e_r7) d_W_law_782 e_n10 rfl ⟨Nat.le_of_ble_eq_true rfl, Nat.le_of_ble_eq_true rfl⟩ (Nat.le_of_ble_eq_true rfl) (show cells + 0 ≤ 601024 by omega) (show slots + 0 ≤ 7293034 by omega) rfl ?_
  refine r_icmp_eq C 859 d_W_law_785 (by decide) (fun c9 => ?_) (fun c9 => ?_)
  · rw [if_pos c9] at h
    refine r_wid (k := cells + 16) (n := slots + 100) (show cells + 0 ≤ cells + 16 by omega) (show slots + 0 ≤ slots + 100 by omega) ?_
    exact hK L V8 h
  · rw [if_neg c9] at h
    refine r_iconst C (0 : Int32) d_W_law_788 (by decide) ?_
    cases h
def D_L15 (Ln : Nat) (xs : Nat → Int32) (v1 v2 v3 : Nat) (v4 : Int32) (K : gL → gV → Option Unit) (L : gL) (V : gV) : Option Unit :=
  Option.bind (g_sx Ln xs (v4 + (1 : Int32))) fun x1 =>
    Option.bind ((L).2 3 v1) fun n9 =>
    g_b2 (D_A_total v1 x1 L V) fun r2 V3 =>
    Option.bind (g_sx Ln xs (v4 + (1 : Int32))) fun x4 =>
    Option.bind ((L).2 4 v2) fun n8 =>
    g_b2 (D_M_total v2 x4 L V3) fun r5 V6 =>
    (if r2 = r5 then
    K L V6
  else
    none)
set_option maxHeartbeats 4000000 in
set_option maxRecDepth 100000 in
theorem t_L15 (C : gC E base p s m args meth c b_W_law R_W 8) (hX : va_X b Ln xs s s.heap) (hbb : b < base ∧ base = s.heap.size) (hfl : l.flags = flags0) (hT : g_T sa base s) {v1 v2 v3 : Nat} {v4 : Int32} {cells slots : Nat} (hcl : cells + 16 ≤ 601024) (hsl : slots + 100 ≤ 7293034) {K : gL → gV → Option Unit} (hK : ∀ (L : gL) (V : gV), K L V = some () → vW E base base 8 p l e room_1 s m args below meth c (cells + 16) (slots + 100) Q L V 859 [(0, tR (some b)), (1, tR (some v1)), (2, tR (some v2)), (3, tR (some v3)), (4, tI v4)] []) (L : gL) (V : gV) (h : D_L15 Ln xs v1 v2 v3 v4 K L V = some ()) : vW E base base 8 p l e room_1 s m args below meth c cells slots Q L V 790 [(0, tR (some b)), (1, tR (some v1)), (2, tR (some v2)), (3, tR (some v3)), (4, tI v4)] [] := by
  unfold D_L15 at h
  refine r_aload_n (x := (some v1)) C d_W_law_790 rfl rfl ?_
  refine r_aload_n (x := (some b)) C d_W_law_791 rfl rfl ?_
  refine r_iload (x := v4) C d_W_law_792 rfl ?_
  refine r_iconst C (1 : Int32) d_W_law_794 (by decide) ?_
  refine r_iadd C d_W_law_795 ?_
  replace h := g_ob h; obtain ⟨x1, e_x1, h⟩ := h
  refine r_sld C hX hbb d_W_law_796 e_x1 ?_
  replace h := g_ob h; obtain ⟨n9, e_n9, h⟩ := h
  replace h := g_o2 h; obtain ⟨r2, V3, e_r2, h⟩ := h
  refine r_callV (As := [tI x1]) C k_W_103 w_488 w_489 w_482 ⟨_, _, rfl⟩ (c_A_total l E base base v1 x1 L V e_r2) d_W_law_797 e_n9 rfl ⟨Nat.le_of_ble_eq_true rfl, Nat.le_of_ble_eq_true rfl⟩ (Nat.le_of_ble_eq_true rfl) (show cells + 0 ≤ 601024 by omega) (show slots + 0 ≤ 7293034 by omega) rfl ?_
  refine r_aload_n (x := (some v2)) C d_W_law_800 rfl rfl ?_
  refine r_aload_n (x := (some b)) C d_W_law_801 rfl rfl ?_
  refine r_iload (x := v4) C d_W_law_802 rfl ?_
  refine r_iconst C (1 : Int32) d_W_law_804 (by decide) ?_
  refine r_iadd C d_W_law_805 ?_
  replace h := g_ob h; obtain ⟨x4, e_x4, h⟩ := h
  refine r_sld C hX hbb d_W_law_806 e_x4 ?_
  replace h := g_ob h; obtain ⟨n8, e_n8, h⟩ := h
  replace h := g_o2 h; obtain ⟨r5, V6, e_r5, h⟩ := h
  refine r_callV (As := [tI x4]) C k_W_106 w_486 w_487 w_484 ⟨_, _, rfl⟩ (c_M_total l E base v2 x4 L V3 e_r5) d_W_law_807 e_n8 rfl ⟨Nat.le_of_ble_eq_true rfl, Nat.le_of_ble_eq_true rfl⟩ (Nat.le_of_ble_eq_true rfl) (show cells + 0 ≤ 601024 by omega) (show slots + 0 ≤ 7293034 by omega) rfl ?_
  refine r_icmp_eq C 859 d_W_law_810 (by decide) (fun c7 => ?_) (fun c7 => ?_)
  · rw [if_pos c7] at h
    refine r_wid (k := cells + 16) (n := slots + 100) (show cells + 0 ≤ cells + 16 by omega) (show slots + 0 ≤ slots + 100 by omega) ?_
    exact hK L V6 h
  · rw [if_neg c7] at h
    refine r_iconst C (0 : Int32) d_W_law_813 (by decide) ?_
    cases h
def D_L16 (Ln : Nat) (xs : Nat → Int32) (v1 v2 v3 : Nat) (v4 : Int32) (K : gL → gV → Option Unit) (L : gL) (V : gV) : Option Unit :=
  g_b3 (D_W_share v1 v3 L V) fun r1 L3 V2 =>
    Option.bind ((L3).2 4 v2) fun n13 =>
    g_b2 (D_M_share v2 L3 V2) fun r4 V5 =>
    Option.bind ((L3).2 4 v2) fun n12 =>
    g_b2 (D_M_thrown v2 L3 V5) fun r6 V7 =>
    (if r6 = r1 then
    (if r1 = 0 then
    Option.bind (g_aJ L3 V7 101 v3 (0 : Int32)) fun x8 =>
    (if (lg_cmp x8 r4.toInt64) = 0 then
    K L3 V7
  else
    none)
  else
    K L3 V7)
  else
    none)
set_option maxHeartbeats 4000000 in
set_option maxRecDepth 100000 in
theorem t_L16 (C : gC E base p s m args meth c b_W_law R_W 8) (hX : va_X b Ln xs s s.heap) (hbb : b < base ∧ base = s.heap.size) (hfl : l.flags = flags0) (hT : g_T sa base s) {v1 v2 v3 : Nat} {v4 : Int32} {cells slots : Nat} (hcl : cells + 16 ≤ 601024) (hsl : slots + 100 ≤ 7293034) {K : gL → gV → Option Unit} (hK : ∀ (L : gL) (V : gV), K L V = some () → vW E base base 8 p l e room_1 s m args below meth c (cells + 16) (slots + 100) Q L V 859 [(0, tR (some b)), (1, tR (some v1)), (2, tR (some v2)), (3, tR (some v3)), (4, tI v4)] []) (L : gL) (V : gV) (h : D_L16 Ln xs v1 v2 v3 v4 K L V = some ()) : vW E base base 8 p l e room_1 s m args below meth c cells slots Q L V 815 [(0, tR (some b)), (1, tR (some v1)), (2, tR (some v2)), (3, tR (some v3)), (4, tI v4)] [] := by
  unfold D_L16 at h
  refine r_aload_n (x := (some v1)) C d_W_law_815 rfl rfl ?_
  refine r_aload_n (x := (some v3)) C d_W_law_816 rfl rfl ?_
  replace h := g_o3 h; obtain ⟨r1, L3, V2, e_r1, h⟩ := h
  refine r_callSW (As := [tR (some v1), tR (some v3)]) C hT k_W_107 w_496 w_490 (c_W_share l hfl E base sa v1 v3 L V e_r1) d_W_law_817 rfl ⟨Nat.le_of_ble_eq_true rfl, Nat.le_of_ble_eq_true rfl⟩ (Nat.le_of_ble_eq_true rfl) (show cells + 1 ≤ 601024 by omega) (show slots + 6 ≤ 7293034 by omega) rfl ?_
  refine r_istore (lv' := [(5, tI r1), (0, tR (some b)), (1, tR (some v1)), (2, tR (some v2)), (3, tR (some v3)), (4, tI v4)]) C d_W_law_820 (by decide) rfl ?_
  refine r_aload_n (x := (some v2)) C d_W_law_822 rfl rfl ?_
  replace h := g_ob h; obtain ⟨n13, e_n13, h⟩ := h
  replace h := g_o2 h; obtain ⟨r4, V5, e_r4, h⟩ := h
  refine r_callV (As := []) C k_W_110 w_494 w_495 w_492 ⟨_, _, rfl⟩ (c_M_share l E base v2 L3 V2 e_r4) d_W_law_823 e_n13 rfl ⟨Nat.le_of_ble_eq_true rfl, Nat.le_of_ble_eq_true rfl⟩ (Nat.le_of_ble_eq_true rfl) (show cells + 1 ≤ 601024 by omega) (show slots + 6 ≤ 7293034 by omega) rfl ?_
  refine r_istore (lv' := [(6, tI r4), (5, tI r1), (0, tR (some b)), (1, tR (some v1)), (2, tR (some v2)), (3, tR (some v3)), (4, tI v4)]) C d_W_law_826 (by decide) rfl ?_
  refine r_aload_n (x := (some v2)) C d_W_law_828 rfl rfl ?_
  replace h := g_ob h; obtain ⟨n12, e_n12, h⟩ := h
  replace h := g_o2 h; obtain ⟨r6, V7, e_r6, h⟩ := h
  refine r_callV (As := []) C k_W_86 w_453 w_454 w_451 ⟨_, _, rfl⟩ (c_M_thrown l E base base v2 L3 V5 e_r6) d_W_law_829 e_n12 rfl ⟨Nat.le_of_ble_eq_true rfl, Nat.le_of_ble_eq_true rfl⟩ (Nat.le_of_ble_eq_true rfl) (show cells + 1 ≤ 601024 by omega) (show slots + 6 ≤ 7293034 by omega) rfl ?_
  refine r_iload (x := r1) C d_W_law_832 rfl ?_
  refine r_icmp_eq C 839 d_W_law_834 (by decide) (fun c11 => ?_) (fun c11 => ?_)
  · rw [if_pos c11] at h
    refine r_iload (x := r1) C d_W_law_839 rfl ?_
    refine r_if_ne C 856 d_W_law_841 (by decide) (fun c10 => ?_) (fun c10 => ?_)
    · rw [if_neg c10] at h
      refine r_goto C 859 d_W_law_856 (by decide) ?_
      refine r_lv [2, 3, 4, 5, 6] rfl ?_
      refine r_wid (k := cells + 16) (n := slots + 100) (show cells + 1 ≤ cells + 16 by omega) (show slots + 6 ≤ slots + 100 by omega) ?_
      exact hK L3 V7 h
    · rw [if_pos c10] at h
      refine r_aload_n (x := (some v3)) C d_W_law_844 rfl rfl ?_
      refine r_iconst C (0 : Int32) d_W_law_845 (by decide) ?_
      replace h := g_ob h; obtain ⟨x8, e_x8, h⟩ := h
      refine r_lald C ak_101 d_W_law_846 e_x8 ?_
      refine r_iload (x := r4) C d_W_law_847 rfl ?_
      refine r_i2l C d_W_law_849 ?_
      refine r_lcmp C d_W_law_850 ?_
      refine r_if_eq C 856 d_W_law_851 (by decide) (fun c9 => ?_) (fun c9 => ?_)
      · rw [if_pos c9] at h
        refine r_goto C 859 d_W_law_856 (by decide) ?_
        refine r_lv [2, 3, 4, 5, 6] rfl ?_
        refine r_wid (k := cells + 16) (n := slots + 100) (show cells + 1 ≤ cells + 16 by omega) (show slots + 6 ≤ slots + 100 by omega) ?_
        exact hK L3 V7 h
      · rw [if_neg c9] at h
        refine r_iconst C (0 : Int32) d_W_law_854 (by decide) ?_
        cases h
  · rw [if_neg c11] at h
    refine r_iconst C (0 : Int32) d_W_law_837 (by decide) ?_
    cases h
def D_law (Ln : Nat) (xs : Nat → Int32) (v1 v2 v3 : Nat) : Nat → Int32 → gL → gV → Option Unit
  | 0, _, _, _ => none
  | n + 1, v4, L, V => if nI Ln - 5 < v4 then some () else Option.bind (g_sx Ln xs v4) fun q =>
    if q &&& 31 = 0 then D_L0 Ln xs v1 v2 v3 v4 (fun L V => D_law Ln xs v1 v2 v3 n (v4 + 5) L V) L V else
    if q &&& 31 = 1 then D_L1 Ln xs v1 v2 v3 v4 (fun L V => D_law Ln xs v1 v2 v3 n (v4 + 5) L V) L V else
    if q &&& 31 = 2 then D_L2 Ln xs v1 v2 v3 v4 (fun L V => D_law Ln xs v1 v2 v3 n (v4 + 5) L V) L V else
    if q &&& 31 = 3 then D_L3 Ln xs v1 v2 v3 v4 (fun L V => D_law Ln xs v1 v2 v3 n (v4 + 5) L V) L V else
    if q &&& 31 = 4 then D_L4 Ln xs v1 v2 v3 v4 (fun L V => D_law Ln xs v1 v2 v3 n (v4 + 5) L V) L V else
    if q &&& 31 = 5 then D_L5 Ln xs v1 v2 v3 v4 (fun L V => D_law Ln xs v1 v2 v3 n (v4 + 5) L V) L V else
    if q &&& 31 = 6 then D_L6 Ln xs v1 v2 v3 v4 (fun L V => D_law Ln xs v1 v2 v3 n (v4 + 5) L V) L V else
    if q &&& 31 = 7 then D_L7 Ln xs v1 v2 v3 v4 (fun L V => D_law Ln xs v1 v2 v3 n (v4 + 5) L V) L V else
    if q &&& 31 = 8 then D_L8 Ln xs v1 v2 v3 v4 (fun L V => D_law Ln xs v1 v2 v3 n (v4 + 5) L V) L V else
    if q &&& 31 = 9 then D_L9 Ln xs v1 v2 v3 v4 (fun L V => D_law Ln xs v1 v2 v3 n (v4 + 5) L V) L V else
    if q &&& 31 = 10 then D_L10 Ln xs v1 v2 v3 v4 (fun L V => D_law Ln xs v1 v2 v3 n (v4 + 5) L V) L V else
    if q &&& 31 = 11 then D_L11 Ln xs v1 v2 v3 v4 (fun L V => D_law Ln xs v1 v2 v3 n (v4 + 5) L V) L V else
    if q &&& 31 = 12 then D_L12 Ln xs v1 v2 v3 v4 (fun L V => D_law Ln xs v1 v2 v3 n (v4 + 5) L V) L V else
    if q &&& 31 = 13 then D_L13 Ln xs v1 v2 v3 v4 (fun L V => D_law Ln xs v1 v2 v3 n (v4 + 5) L V) L V else
    if q &&& 31 = 14 then D_L14 Ln xs v1 v2 v3 v4 (fun L V => D_law Ln xs v1 v2 v3 n (v4 + 5) L V) L V else
    if q &&& 31 = 15 then D_L15 Ln xs v1 v2 v3 v4 (fun L V => D_law Ln xs v1 v2 v3 n (v4 + 5) L V) L V else
    if q &&& 31 = 16 then D_L16 Ln xs v1 v2 v3 v4 (fun L V => D_law Ln xs v1 v2 v3 n (v4 + 5) L V) L V else
    D_law Ln xs v1 v2 v3 n (v4 + 5) L V
end GLAW
