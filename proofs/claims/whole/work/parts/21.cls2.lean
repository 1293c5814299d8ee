/-! METHODS (by program): GC2 -/
section GC2
variable {E : gE} {base bA : Nat} {p : Program} {l : Launch} {e : Env} {s : State} {m : MethodId} {args : Array Value} {below : List Frame} {meth : Method} {c : Code} {L : gL}
def rm_A_init : Room := { frames := 1, cells := 4, slots := 41, locals := 20 }
def D_A_init (h0 : Nat) (L : gL) (V : gV) : Option (Unit × gL × gV) :=
  g_bn (g_new L V 103 16 (fun _ => tR none)) fun L1 V2 =>
    Option.bind (g_wr L1 V2 3 h0 0 (tR (some L.1))) fun V3 =>
    Option.bind (g_wr L1 V3 3 h0 1 (tI (0 : Int32))) fun V4 =>
    g_bn (g_new L1 V4 104 16 (fun _ => tR none)) fun L5 V6 =>
    Option.bind (g_wr L5 V6 3 h0 2 (tR (some L1.1))) fun V7 =>
    Option.bind (g_wr L5 V7 3 h0 3 (tI (0 : Int32))) fun V8 =>
    g_bn (g_new L5 V8 100 5 (fun _ => tI 0)) fun L9 V10 =>
    Option.bind (g_wr L9 V10 3 h0 4 (tR (some L5.1))) fun V11 =>
    g_bn (g_new L9 V11 100 4 (fun _ => tI 0)) fun L12 V13 =>
    Option.bind (g_wr L12 V13 3 h0 5 (tR (some L9.1))) fun V14 =>
    Option.bind (g_wr L12 V14 3 h0 6 (tI (0 : Int32))) fun V15 =>
    some ((), L12, V15)
set_option maxHeartbeats 4000000 in
set_option maxRecDepth 100000 in
theorem t_A_init_0 (C : gC E base p s m args meth c b_A_init R_A 1) (hr : meth.sig.returnType = none) (hn : meth.name = "<init>") {z : Unit × gL × gV} (h0 : Nat) (V : gV) (h : D_A_init h0 L V = some z) : vW E base base 1 p l e rm_A_init s m args below meth c 0 0 (g_MQ E base base below args s 4 41 z.2.1 z.2.2 none) L V 0 [(0, tR (some h0))] [] := by
  unfold D_A_init at h
  refine r_aload_n (x := (some h0)) C d_A_init_0 rfl rfl ?_
  refine r_objInit C w_75 w_1 w_2 d_A_init_1 (Nat.le_of_ble_eq_true rfl) (Nat.le_of_ble_eq_true rfl) ?_
  refine r_aload_n (x := (some h0)) C d_A_init_4 rfl rfl ?_
  refine r_bipush C (16 : Int32) d_A_init_5 (by decide) ?_
  replace h := g_obn h; obtain ⟨L1, V2, e_L1, h⟩ := h
  refine r_anew C ak_103 w_76 (by decide) d_A_init_7 (by decide) (by decide) (by decide) e_L1 (Nat.le_of_ble_eq_true rfl) (Nat.le_of_ble_eq_true rfl) ?_
  replace h := g_ob h; obtain ⟨V3, e_V3, h⟩ := h
  refine r_putF C f_A_11 d_A_init_10 hn ⟨_, rfl, rfl⟩ e_V3 (g_nA (some L.1)).1 (g_nA (some L.1)).2 ?_
  refine r_aload_n (x := (some h0)) C d_A_init_13 rfl rfl ?_
  refine r_iconst C (0 : Int32) d_A_init_14 (by decide) ?_
  replace h := g_ob h; obtain ⟨V4, e_V4, h⟩ := h
  refine r_put C f_A_15 d_A_init_15 e_V4 (g_nI (0 : Int32)).1 (g_nI (0 : Int32)).2 ?_
  refine r_aload_n (x := (some h0)) C d_A_init_18 rfl rfl ?_
  refine r_bipush C (16 : Int32) d_A_init_19 (by decide) ?_
  replace h := g_obn h; obtain ⟨L5, V6, e_L5, h⟩ := h
  refine r_anew C ak_104 w_79 (by decide) d_A_init_21 (by decide) (by decide) (by decide) e_L5 (Nat.le_of_ble_eq_true rfl) (Nat.le_of_ble_eq_true rfl) ?_
  replace h := g_ob h; obtain ⟨V7, e_V7, h⟩ := h
  refine r_putF C f_A_21 d_A_init_24 hn ⟨_, rfl, rfl⟩ e_V7 (g_nA (some L1.1)).1 (g_nA (some L1.1)).2 ?_
  refine r_aload_n (x := (some h0)) C d_A_init_27 rfl rfl ?_
  refine r_iconst C (0 : Int32) d_A_init_28 (by decide) ?_
  replace h := g_ob h; obtain ⟨V8, e_V8, h⟩ := h
  refine r_put C f_A_25 d_A_init_29 e_V8 (g_nI (0 : Int32)).1 (g_nI (0 : Int32)).2 ?_
  refine r_aload_n (x := (some h0)) C d_A_init_32 rfl rfl ?_
  refine r_iconst C (5 : Int32) d_A_init_33 (by decide) ?_
  replace h := g_obn h; obtain ⟨L9, V10, e_L9, h⟩ := h
  refine r_newa (at_ := .int) (ty := .int) C rfl ak_100 (fun _ q => by cases q) w_20 d_A_init_34 (by decide) (by decide) (by decide) rfl e_L9 (Nat.le_of_ble_eq_true rfl) (Nat.le_of_ble_eq_true rfl) ?_
  replace h := g_ob h; obtain ⟨V11, e_V11, h⟩ := h
  refine r_putF C f_A_28 d_A_init_36 hn ⟨_, rfl, rfl⟩ e_V11 (g_nA (some L5.1)).1 (g_nA (some L5.1)).2 ?_
  refine r_aload_n (x := (some h0)) C d_A_init_39 rfl rfl ?_
  refine r_iconst C (4 : Int32) d_A_init_40 (by decide) ?_
  replace h := g_obn h; obtain ⟨L12, V13, e_L12, h⟩ := h
  refine r_newa (at_ := .int) (ty := .int) C rfl ak_100 (fun _ q => by cases q) w_20 d_A_init_41 (by decide) (by decide) (by decide) rfl e_L12 (Nat.le_of_ble_eq_true rfl) (Nat.le_of_ble_eq_true rfl) ?_
  replace h := g_ob h; obtain ⟨V14, e_V14, h⟩ := h
  refine r_putF C f_A_32 d_A_init_43 hn ⟨_, rfl, rfl⟩ e_V14 (g_nA (some L9.1)).1 (g_nA (some L9.1)).2 ?_
  refine r_aload_n (x := (some h0)) C d_A_init_46 rfl rfl ?_
  refine r_iconst C (0 : Int32) d_A_init_47 (by decide) ?_
  replace h := g_ob h; obtain ⟨V15, e_V15, h⟩ := h
  refine r_put C f_A_35 d_A_init_48 e_V15 (g_nI (0 : Int32)).1 (g_nI (0 : Int32)).2 ?_
  cases h
  refine r_wid (k := 4) (n := 41) (Nat.le_of_ble_eq_true rfl) (Nat.le_of_ble_eq_true rfl) ?_
  exact r_vret C hr d_A_init_51
theorem c_A_init (l : Launch) (E : gE) (base : Nat) (h0 : Nat) (L : gL) (V : gV) {z : Unit × gL × gV} (h : D_A_init h0 L V = some z) : g_Met l E base base y_A_init b_A_init 1 none rm_A_init [tR (some h0)] L V none z.2.1 z.2.2 :=
  r_enter R_A (by decide) rfl [tR (some h0)] [(0, tR (some h0))] rfl (Nat.le_of_ble_eq_true rfl) (fun p e s m args below meth c C hr hnm => t_A_init_0 C hr hnm h0 V h)
def rm_A_file : Room := { frames := 2, cells := 1, slots := 3, locals := 42 }
def D_A_file (h0 : Nat) (p1 : Int64) (L : gL) (V : gV) : Option (Int32 × gL × gV) :=
  Option.bind (g_rI L V 3 h0 1) fun x1 =>
    (if x1 < (16 : Int32) then
    Option.bind (g_rR L V 3 h0 0) fun x2 =>
    Option.bind (g_rI L V 3 h0 1) fun x3 =>
    g_bn (g_new L V 1 3 df_S) fun L4 V5 =>
    g_b2 (D_S_init L.1 p1 L4 V5) fun r6 V7 =>
    Option.bind x2 fun a8 =>
    Option.bind ((L4).2 1 L.1) fun n13 =>
    Option.bind (g_wa L4 V7 103 a8 x3 (tR (some L.1))) fun V9 =>
    Option.bind (g_rI L4 V9 3 h0 1) fun x10 =>
    Option.bind (g_wr L4 V9 3 h0 1 (tI (x10 + (1 : Int32)))) fun V11 =>
    Option.bind (g_rI L4 V11 3 h0 1) fun x12 =>
    some (x12 - (1 : Int32), L4, V11)
  else
    some ((-1 : Int32), L, V))
set_option maxHeartbeats 4000000 in
set_option maxRecDepth 100000 in
theorem t_A_file_0 (C : gC E base p s m args meth c b_A_file R_A 3) (hr : meth.sig.returnType = (some .int)) {z : Int32 × gL × gV} (h0 : Nat) (p1 : Int64) (V : gV) (h : D_A_file h0 p1 L V = some z) : vW E base base 3 p l e rm_A_file s m args below meth c 0 0 (g_MQ E base base below args s 1 3 z.2.1 z.2.2 (some (tI z.1))) L V 0 [(0, tR (some h0)), (1, tJ p1)] [] := by
  unfold D_A_file at h
  refine r_aload_n (x := (some h0)) C d_A_file_0 rfl rfl ?_
  replace h := g_ob h; obtain ⟨x1, e_x1, h⟩ := h
  refine r_getI C f_A_15 d_A_file_1 e_x1 ?_
  refine r_bipush C (16 : Int32) d_A_file_4 (by decide) ?_
  refine r_icmp_lt C 11 d_A_file_6 (by decide) (fun c14 => ?_) (fun c14 => ?_)
  · rw [if_pos c14] at h
    refine r_aload_n (x := (some h0)) C d_A_file_11 rfl rfl ?_
    replace h := g_ob h; obtain ⟨x2, e_x2, h⟩ := h
    refine r_getR C f_A_11 d_A_file_12 e_x2 ?_
    refine r_aload_n (x := (some h0)) C d_A_file_15 rfl rfl ?_
    replace h := g_ob h; obtain ⟨x3, e_x3, h⟩ := h
    refine r_getI C f_A_15 d_A_file_16 e_x3 ?_
    replace h := g_obn h; obtain ⟨L4, V5, e_L4, h⟩ := h
    refine r_new C n_A_9 d_A_file_19 e_L4 (Nat.le_of_ble_eq_true rfl) (Nat.le_of_ble_eq_true rfl) ?_
    refine r_dup C d_A_file_22 rfl ?_
    refine r_lload_n (x := p1) C d_A_file_23 rfl rfl ?_
    replace h := g_o2 h; obtain ⟨r6, V7, e_r6, h⟩ := h
    refine r_callI (As := [tJ p1]) C k_A_38 rfl w_89 w_87 (c_S_init l E base L.1 p1 L4 V5 e_r6) d_A_file_24 rfl ⟨Nat.le_of_ble_eq_true rfl, Nat.le_of_ble_eq_true rfl⟩ (Nat.le_of_ble_eq_true rfl) (Nat.le_of_ble_eq_true rfl) (Nat.le_of_ble_eq_true rfl) rfl ?_
    replace h := g_ob h; obtain ⟨a8, rfl, h⟩ := h
    replace h := g_ob h; obtain ⟨n13, e_n13, h⟩ := h
    replace h := g_ob h; obtain ⟨V9, e_V9, h⟩ := h
    refine r_aast C ak_103 ⟨_, _, rfl⟩ d_A_file_27 e_n13 e_V9 ?_
    refine r_aload_n (x := (some h0)) C d_A_file_28 rfl rfl ?_
    refine r_dup C d_A_file_29 rfl ?_
    replace h := g_ob h; obtain ⟨x10, e_x10, h⟩ := h
    refine r_getI C f_A_15 d_A_file_30 e_x10 ?_
    refine r_iconst C (1 : Int32) d_A_file_33 (by decide) ?_
    refine r_iadd C d_A_file_34 ?_
    replace h := g_ob h; obtain ⟨V11, e_V11, h⟩ := h
    refine r_put C f_A_15 d_A_file_35 e_V11 (g_nI (x10 + (1 : Int32))).1 (g_nI (x10 + (1 : Int32))).2 ?_
    refine r_aload_n (x := (some h0)) C d_A_file_38 rfl rfl ?_
    replace h := g_ob h; obtain ⟨x12, e_x12, h⟩ := h
    refine r_getI C f_A_15 d_A_file_39 e_x12 ?_
    refine r_iconst C (1 : Int32) d_A_file_42 (by decide) ?_
    refine r_isub C d_A_file_43 ?_
    cases h
    refine r_wid (k := 1) (n := 3) (Nat.le_of_ble_eq_true rfl) (Nat.le_of_ble_eq_true rfl) ?_
    exact r_iret C hr d_A_file_44
  · rw [if_neg c14] at h
    refine r_iconst C (-1 : Int32) d_A_file_9 (by decide) ?_
    cases h
    refine r_wid (k := 1) (n := 3) (Nat.le_of_ble_eq_true rfl) (Nat.le_of_ble_eq_true rfl) ?_
    exact r_iret C hr d_A_file_10
theorem c_A_file (l : Launch) (E : gE) (base : Nat) (h0 : Nat) (p1 : Int64) (L : gL) (V : gV) {z : Int32 × gL × gV} (h : D_A_file h0 p1 L V = some z) : g_Met l E base base y_A_file b_A_file 3 (some .int) rm_A_file [tR (some h0), tJ p1] L V (some (tI z.1)) z.2.1 z.2.2 :=
  r_enter R_A (by decide) rfl [tR (some h0), tJ p1] [(0, tR (some h0)), (1, tJ p1)] rfl (Nat.le_of_ble_eq_true rfl) (fun p e s m args below meth c C hr hnm => t_A_file_0 C hr h0 p1 V h)
def rm_A_sourceAt : Room := { frames := 0, cells := 0, slots := 0, locals := 0 }
def D_A_sourceAt (h0 : Nat) (p1 : Int32) (L : gL) (V : gV) : Option (Option Nat × gV) :=
  (if p1 < 0 then
    some (none, V)
  else
    Option.bind (g_rI L V 3 h0 1) fun x1 =>
    (if x1 ≤ p1 then
    some (none, V)
  else
    Option.bind (g_rR L V 3 h0 0) fun x2 =>
    Option.bind x2 fun a3 =>
    Option.bind (g_aR L V 103 a3 p1) fun x4 =>
    some (x4, V)))
set_option maxHeartbeats 4000000 in
set_option maxRecDepth 100000 in
theorem t_A_sourceAt_0 (C : gC E bA p s m args meth c b_A_sourceAt R_A 2) (hr : meth.sig.returnType = (some (.object "EarlyCut$Source"))) {z : Option Nat × gV} (h0 : Nat) (p1 : Int32) (V : gV) (h : D_A_sourceAt h0 p1 L V = some z) : vW E base bA 2 p l e rm_A_sourceAt s m args below meth c 0 0 (g_MQ E base bA below args s 0 0 L z.2 (some (tR z.1))) L V 0 [(0, tR (some h0)), (1, tI p1)] [] := by
  unfold D_A_sourceAt at h
  refine r_iload_n (x := p1) C d_A_sourceAt_0 rfl rfl ?_
  refine r_if_lt C 21 d_A_sourceAt_1 (by decide) (fun c6 => ?_) (fun c6 => ?_)
  · rw [if_pos c6] at h
    refine r_null C d_A_sourceAt_21 ?_
    cases h
    exact r_aret C hr d_A_sourceAt_22
  · rw [if_neg c6] at h
    refine r_iload_n (x := p1) C d_A_sourceAt_4 rfl rfl ?_
    refine r_aload_n (x := (some h0)) C d_A_sourceAt_5 rfl rfl ?_
    replace h := g_ob h; obtain ⟨x1, e_x1, h⟩ := h
    refine r_getI C f_A_15 d_A_sourceAt_6 e_x1 ?_
    refine r_icmp_ge C 21 d_A_sourceAt_9 (by decide) (fun c5 => ?_) (fun c5 => ?_)
    · rw [if_pos c5] at h
      refine r_null C d_A_sourceAt_21 ?_
      cases h
      exact r_aret C hr d_A_sourceAt_22
    · rw [if_neg c5] at h
      refine r_aload_n (x := (some h0)) C d_A_sourceAt_12 rfl rfl ?_
      replace h := g_ob h; obtain ⟨x2, e_x2, h⟩ := h
      refine r_getR C f_A_11 d_A_sourceAt_13 e_x2 ?_
      refine r_iload_n (x := p1) C d_A_sourceAt_16 rfl rfl ?_
      replace h := g_ob h; obtain ⟨a3, rfl, h⟩ := h
      replace h := g_ob h; obtain ⟨x4, e_x4, h⟩ := h
      refine r_aald C ak_103 rfl d_A_sourceAt_17 e_x4 ?_
      refine r_goto C 22 d_A_sourceAt_18 (by decide) ?_
      cases h
      exact r_aret C hr d_A_sourceAt_22
theorem c_A_sourceAt (l : Launch) (E : gE) (base bA : Nat) (h0 : Nat) (p1 : Int32) (L : gL) (V : gV) {z : Option Nat × gV} (h : D_A_sourceAt h0 p1 L V = some z) : g_Met l E base bA y_A_sourceAt b_A_sourceAt 2 (some (.object "EarlyCut$Source")) rm_A_sourceAt [tR (some h0), tI p1] L V (some (tR z.1)) L z.2 :=
  r_enter R_A (by decide) rfl [tR (some h0), tI p1] [(0, tR (some h0)), (1, tI p1)] rfl (Nat.le_of_ble_eq_true rfl) (fun p e s m args below meth c C hr hnm => t_A_sourceAt_0 C hr h0 p1 V h)
def rm_A_set : Room := { frames := 1, cells := 0, slots := 0, locals := 21 }
def D_A_set (h0 : Nat) (p1 : Int32) (p2 : Int32) (p3 : Int64) (L : gL) (V : gV) : Option (Int32 × gV) :=
  Option.bind ((L).2 3 h0) fun n9 =>
    g_b2 (D_A_sourceAt h0 p1 L V) fun r1 V2 =>
    (g_on r1
    (some ((0 : Int32), V2))
    (fun a3 =>
    Option.bind (g_bz p2) fun _ =>
    Option.bind (g_wr L V2 1 a3 0 (tI p2)) fun V4 =>
    (if p2 = 0 then
    Option.bind (g_wr L V4 1 a3 1 (tJ (0 : Int64))) fun V5 =>
    some ((1 : Int32), V5)
  else
    Option.bind (g_wr L V4 1 a3 1 (tJ p3)) fun V6 =>
    some ((1 : Int32), V6))))
set_option maxHeartbeats 4000000 in
set_option maxRecDepth 100000 in
theorem t_A_set_0 (C : gC E base p s m args meth c b_A_set R_A 6) (hr : meth.sig.returnType = (some .boolean)) {z : Int32 × gV} (h0 : Nat) (p1 : Int32) (p2 : Int32) (p3 : Int64) (V : gV) (h : D_A_set h0 p1 p2 p3 L V = some z) : vW E base base 6 p l e rm_A_set s m args below meth c 0 0 (g_MQ E base base below args s 0 0 L z.2 (some (tI z.1))) L V 0 [(0, tR (some h0)), (1, tI p1), (2, tI p2), (3, tJ p3)] [] := by
  unfold D_A_set at h
  refine r_aload_n (x := (some h0)) C d_A_set_0 rfl rfl ?_
  refine r_iload_n (x := p1) C d_A_set_1 rfl rfl ?_
  replace h := g_ob h; obtain ⟨n9, e_n9, h⟩ := h
  replace h := g_o2 h; obtain ⟨r1, V2, e_r1, h⟩ := h
  refine r_callV (As := [tI p1]) C k_A_41 w_95 w_96 w_90 ⟨_, _, rfl⟩ (c_A_sourceAt l E base base h0 p1 L V e_r1) d_A_set_2 e_n9 rfl ⟨Nat.le_of_ble_eq_true rfl, Nat.le_of_ble_eq_true rfl⟩ (Nat.le_of_ble_eq_true rfl) (Nat.le_of_ble_eq_true rfl) (Nat.le_of_ble_eq_true rfl) rfl ?_
  refine r_astore (lv' := [(5, tR r1), (0, tR (some h0)), (1, tI p1), (2, tI p2), (3, tJ p3)]) C d_A_set_5 (by decide) rfl ?_
  refine r_aload (x := r1) C d_A_set_7 rfl ?_
  replace h := g_oon h; rcases h with ⟨rfl, h⟩ | ⟨a3, rfl, h⟩
  · refine r_ifnonnull_f C d_A_set_9 ?_
    refine r_iconst C (0 : Int32) d_A_set_12 (by decide) ?_
    cases h
    exact r_zret C hr d_A_set_13 (Or.inl rfl)
  · refine r_ifnonnull_t C 14 d_A_set_9 (by decide) ?_
    refine r_aload (x := (some a3)) C d_A_set_14 rfl ?_
    refine r_iload_n (x := p2) C d_A_set_16 rfl rfl ?_
    replace h := g_ob h; obtain ⟨u8, e_u8, h⟩ := h
    replace h := g_ob h; obtain ⟨V4, e_V4, h⟩ := h
    refine r_put C f_A_45 d_A_set_17 e_V4 (g_nZ (x := p2) (g_bz_spec e_u8)).1 (g_nZ (x := p2) (g_bz_spec e_u8)).2 ?_
    refine r_aload (x := (some a3)) C d_A_set_20 rfl ?_
    refine r_iload_n (x := p2) C d_A_set_22 rfl rfl ?_
    refine r_if_eq C 30 d_A_set_23 (by decide) (fun c7 => ?_) (fun c7 => ?_)
    · rw [if_pos c7] at h
      refine r_lconst C (0 : Int64) d_A_set_30 (by decide) ?_
      replace h := g_ob h; obtain ⟨V5, e_V5, h⟩ := h
      refine r_put C f_A_49 d_A_set_31 e_V5 (g_nJ (0 : Int64)).1 (g_nJ (0 : Int64)).2 ?_
      refine r_iconst C (1 : Int32) d_A_set_34 (by decide) ?_
      cases h
      exact r_zret C hr d_A_set_35 (Or.inr rfl)
    · rw [if_neg c7] at h
      refine r_lload_n (x := p3) C d_A_set_26 rfl rfl ?_
      refine r_goto C 31 d_A_set_27 (by decide) ?_
      replace h := g_ob h; obtain ⟨V6, e_V6, h⟩ := h
      refine r_put C f_A_49 d_A_set_31 e_V6 (g_nJ p3).1 (g_nJ p3).2 ?_
      refine r_iconst C (1 : Int32) d_A_set_34 (by decide) ?_
      cases h
      exact r_zret C hr d_A_set_35 (Or.inr rfl)
theorem c_A_set (l : Launch) (E : gE) (base : Nat) (h0 : Nat) (p1 : Int32) (p2 : Int32) (p3 : Int64) (L : gL) (V : gV) {z : Int32 × gV} (h : D_A_set h0 p1 p2 p3 L V = some z) : g_Met l E base base y_A_set b_A_set 6 (some .boolean) rm_A_set [tR (some h0), tI p1, tI p2, tJ p3] L V (some (tI z.1)) L z.2 :=
  r_enter R_A (by decide) rfl [tR (some h0), tI p1, tI p2, tJ p3] [(0, tR (some h0)), (1, tI p1), (2, tI p2), (3, tJ p3)] rfl (Nat.le_of_ble_eq_true rfl) (fun p e s m args below meth c C hr hnm => t_A_set_0 C hr h0 p1 p2 p3 V h)
def rm_A_touch : Room := { frames := 1, cells := 0, slots := 0, locals := 21 }
def D_A_touch (h0 : Nat) (p1 : Int32) (L : gL) (V : gV) : Option (Int32 × gV) :=
  Option.bind ((L).2 3 h0) fun n7 =>
    g_b2 (D_A_sourceAt h0 p1 L V) fun r1 V2 =>
    (g_on r1
    (some ((-1 : Int32), V2))
    (fun a3 =>
    Option.bind (g_rI L V2 1 a3 2) fun x4 =>
    Option.bind (g_wr L V2 1 a3 2 (tI (x4 + (1 : Int32)))) fun V5 =>
    Option.bind (g_rI L V5 1 a3 2) fun x6 =>
    some (x6, V5)))
set_option maxHeartbeats 4000000 in
set_option maxRecDepth 100000 in
theorem t_A_touch_0 (C : gC E base p s m args meth c b_A_touch R_A 3) (hr : meth.sig.returnType = (some .int)) {z : Int32 × gV} (h0 : Nat) (p1 : Int32) (V : gV) (h : D_A_touch h0 p1 L V = some z) : vW E base base 3 p l e rm_A_touch s m args below meth c 0 0 (g_MQ E base base below args s 0 0 L z.2 (some (tI z.1))) L V 0 [(0, tR (some h0)), (1, tI p1)] [] := by
  unfold D_A_touch at h
  refine r_aload_n (x := (some h0)) C d_A_touch_0 rfl rfl ?_
  refine r_iload_n (x := p1) C d_A_touch_1 rfl rfl ?_
  replace h := g_ob h; obtain ⟨n7, e_n7, h⟩ := h
  replace h := g_o2 h; obtain ⟨r1, V2, e_r1, h⟩ := h
  refine r_callV (As := [tI p1]) C k_A_41 w_95 w_96 w_90 ⟨_, _, rfl⟩ (c_A_sourceAt l E base base h0 p1 L V e_r1) d_A_touch_2 e_n7 rfl ⟨Nat.le_of_ble_eq_true rfl, Nat.le_of_ble_eq_true rfl⟩ (Nat.le_of_ble_eq_true rfl) (Nat.le_of_ble_eq_true rfl) (Nat.le_of_ble_eq_true rfl) rfl ?_
  refine r_astore_n (lv' := [(2, tR r1), (0, tR (some h0)), (1, tI p1)]) C d_A_touch_5 rfl (by decide) rfl ?_
  refine r_aload_n (x := r1) C d_A_touch_6 rfl rfl ?_
  replace h := g_oon h; rcases h with ⟨rfl, h⟩ | ⟨a3, rfl, h⟩
  · refine r_ifnonnull_f C d_A_touch_7 ?_
    refine r_iconst C (-1 : Int32) d_A_touch_10 (by decide) ?_
    cases h
    exact r_iret C hr d_A_touch_11
  · refine r_ifnonnull_t C 12 d_A_touch_7 (by decide) ?_
    refine r_aload_n (x := (some a3)) C d_A_touch_12 rfl rfl ?_
    refine r_dup C d_A_touch_13 rfl ?_
    replace h := g_ob h; obtain ⟨x4, e_x4, h⟩ := h
    refine r_getI C f_A_53 d_A_touch_14 e_x4 ?_
    refine r_iconst C (1 : Int32) d_A_touch_17 (by decide) ?_
    refine r_iadd C d_A_touch_18 ?_
    replace h := g_ob h; obtain ⟨V5, e_V5, h⟩ := h
    refine r_put C f_A_53 d_A_touch_19 e_V5 (g_nI (x4 + (1 : Int32))).1 (g_nI (x4 + (1 : Int32))).2 ?_
    refine r_aload_n (x := (some a3)) C d_A_touch_22 rfl rfl ?_
    replace h := g_ob h; obtain ⟨x6, e_x6, h⟩ := h
    refine r_getI C f_A_53 d_A_touch_23 e_x6 ?_
    cases h
    exact r_iret C hr d_A_touch_26
theorem c_A_touch (l : Launch) (E : gE) (base : Nat) (h0 : Nat) (p1 : Int32) (L : gL) (V : gV) {z : Int32 × gV} (h : D_A_touch h0 p1 L V = some z) : g_Met l E base base y_A_touch b_A_touch 3 (some .int) rm_A_touch [tR (some h0), tI p1] L V (some (tI z.1)) L z.2 :=
  r_enter R_A (by decide) rfl [tR (some h0), tI p1] [(0, tR (some h0)), (1, tI p1)] rfl (Nat.le_of_ble_eq_true rfl) (fun p e s m args below meth c C hr hnm => t_A_touch_0 C hr h0 p1 V h)
def rm_A_step : Room := { frames := 3, cells := 15, slots := 89, locals := 65 }
def D_A_step (h0 : Nat) (p1 : Int64) (p3 : Int64) (L : gL) (V : gV) : Option (Int32 × gL × gV) :=
  Option.bind (g_rI L V 3 h0 3) fun x1 =>
    (if (16 : Int32) ≤ x1 then
    some ((-1 : Int32), L, V)
  else
    (if 0 ≤ (lg_cmp p3 (0 : Int64)) then
    Option.bind (g_rR L V 3 h0 2) fun x2 =>
    Option.bind (g_rI L V 3 h0 3) fun x3 =>
    g_bn (g_new L V 2 11 df_T) fun L4 V5 =>
    g_b3 (D_T_init L.1 p1 p3 L4 V5) fun r6 L8 V7 =>
    Option.bind x2 fun a9 =>
    Option.bind ((L8).2 2 L.1) fun n14 =>
    Option.bind (g_wa L8 V7 104 a9 x3 (tR (some L.1))) fun V10 =>
    Option.bind (g_rI L8 V10 3 h0 3) fun x11 =>
    Option.bind (g_wr L8 V10 3 h0 3 (tI (x11 + (1 : Int32)))) fun V12 =>
    Option.bind (g_rI L8 V12 3 h0 3) fun x13 =>
    some (x13 - (1 : Int32), L8, V12)
  else
    some ((-1 : Int32), L, V)))
set_option maxHeartbeats 4000000 in
set_option maxRecDepth 100000 in
theorem t_A_step_0 (C : gC E base p s m args meth c b_A_step R_A 5) (hr : meth.sig.returnType = (some .int)) {z : Int32 × gL × gV} (h0 : Nat) (p1 : Int64) (p3 : Int64) (V : gV) (h : D_A_step h0 p1 p3 L V = some z) : vW E base base 5 p l e rm_A_step s m args below meth c 0 0 (g_MQ E base base below args s 15 89 z.2.1 z.2.2 (some (tI z.1))) L V 0 [(0, tR (some h0)), (1, tJ p1), (3, tJ p3)] [] := by
  unfold D_A_step at h
  refine r_aload_n (x := (some h0)) C d_A_step_0 rfl rfl ?_
  replace h := g_ob h; obtain ⟨x1, e_x1, h⟩ := h
  refine r_getI C f_A_25 d_A_step_1 e_x1 ?_
  refine r_bipush C (16 : Int32) d_A_step_4 (by decide) ?_
  refine r_icmp_ge C 15 d_A_step_6 (by decide) (fun c16 => ?_) (fun c16 => ?_)
  · rw [if_pos c16] at h
    refine r_iconst C (-1 : Int32) d_A_step_15 (by decide) ?_
    cases h
    refine r_wid (k := 15) (n := 89) (Nat.le_of_ble_eq_true rfl) (Nat.le_of_ble_eq_true rfl) ?_
    exact r_iret C hr d_A_step_16
  · rw [if_neg c16] at h
    refine r_lload_n (x := p3) C d_A_step_9 rfl rfl ?_
    refine r_lconst C (0 : Int64) d_A_step_10 (by decide) ?_
    refine r_lcmp C d_A_step_11 ?_
    refine r_if_ge C 17 d_A_step_12 (by decide) (fun c15 => ?_) (fun c15 => ?_)
    · rw [if_pos c15] at h
      refine r_aload_n (x := (some h0)) C d_A_step_17 rfl rfl ?_
      replace h := g_ob h; obtain ⟨x2, e_x2, h⟩ := h
      refine r_getR C f_A_21 d_A_step_18 e_x2 ?_
      refine r_aload_n (x := (some h0)) C d_A_step_21 rfl rfl ?_
      replace h := g_ob h; obtain ⟨x3, e_x3, h⟩ := h
      refine r_getI C f_A_25 d_A_step_22 e_x3 ?_
      replace h := g_obn h; obtain ⟨L4, V5, e_L4, h⟩ := h
      refine r_new C n_A_19 d_A_step_25 e_L4 (Nat.le_of_ble_eq_true rfl) (Nat.le_of_ble_eq_true rfl) ?_
      refine r_dup C d_A_step_28 rfl ?_
      refine r_lload_n (x := p1) C d_A_step_29 rfl rfl ?_
      refine r_lload_n (x := p3) C d_A_step_30 rfl rfl ?_
      replace h := g_o3 h; obtain ⟨r6, L8, V7, e_r6, h⟩ := h
      refine r_callI (As := [tJ p1, tJ p3]) C k_A_56 rfl w_101 w_99 (c_T_init l E base L.1 p1 p3 L4 V5 e_r6) d_A_step_31 rfl ⟨Nat.le_of_ble_eq_true rfl, Nat.le_of_ble_eq_true rfl⟩ (Nat.le_of_ble_eq_true rfl) (Nat.le_of_ble_eq_true rfl) (Nat.le_of_ble_eq_true rfl) rfl ?_
      replace h := g_ob h; obtain ⟨a9, rfl, h⟩ := h
      replace h := g_ob h; obtain ⟨n14, e_n14, h⟩ := h
      replace h := g_ob h; obtain ⟨V10, e_V10, h⟩ := h
      refine r_aast C ak_104 ⟨_, _, rfl⟩ d_A_step_34 e_n14 e_V10 ?_
      refine r_aload_n (x := (some h0)) C d_A_step_35 rfl rfl ?_
      refine r_dup C d_A_step_36 rfl ?_
      replace h := g_ob h; obtain ⟨x11, e_x11, h⟩ := h
      refine r_getI C f_A_25 d_A_step_37 e_x11 ?_
      refine r_iconst C (1 : Int32) d_A_step_40 (by decide) ?_
      refine r_iadd C d_A_step_41 ?_
      replace h := g_ob h; obtain ⟨V12, e_V12, h⟩ := h
      refine r_put C f_A_25 d_A_step_42 e_V12 (g_nI (x11 + (1 : Int32))).1 (g_nI (x11 + (1 : Int32))).2 ?_
      refine r_aload_n (x := (some h0)) C d_A_step_45 rfl rfl ?_
      replace h := g_ob h; obtain ⟨x13, e_x13, h⟩ := h
      refine r_getI C f_A_25 d_A_step_46 e_x13 ?_
      refine r_iconst C (1 : Int32) d_A_step_49 (by decide) ?_
      refine r_isub C d_A_step_50 ?_
      cases h
      refine r_wid (k := 15) (n := 89) (Nat.le_of_ble_eq_true rfl) (Nat.le_of_ble_eq_true rfl) ?_
      exact r_iret C hr d_A_step_51
    · rw [if_neg c15] at h
      refine r_iconst C (-1 : Int32) d_A_step_15 (by decide) ?_
      cases h
      refine r_wid (k := 15) (n := 89) (Nat.le_of_ble_eq_true rfl) (Nat.le_of_ble_eq_true rfl) ?_
      exact r_iret C hr d_A_step_16
theorem c_A_step (l : Launch) (E : gE) (base : Nat) (h0 : Nat) (p1 : Int64) (p3 : Int64) (L : gL) (V : gV) {z : Int32 × gL × gV} (h : D_A_step h0 p1 p3 L V = some z) : g_Met l E base base y_A_step b_A_step 5 (some .int) rm_A_step [tR (some h0), tJ p1, tJ p3] L V (some (tI z.1)) z.2.1 z.2.2 :=
  r_enter R_A (by decide) rfl [tR (some h0), tJ p1, tJ p3] [(0, tR (some h0)), (1, tJ p1), (3, tJ p3)] rfl (Nat.le_of_ble_eq_true rfl) (fun p e s m args below meth c C hr hnm => t_A_step_0 C hr h0 p1 p3 V h)
def rm_A_stepAt : Room := { frames := 0, cells := 0, slots := 0, locals := 0 }
def D_A_stepAt (h0 : Nat) (p1 : Int32) (L : gL) (V : gV) : Option (Option Nat × gV) :=
  (if p1 < 0 then
    some (none, V)
  else
    Option.bind (g_rI L V 3 h0 3) fun x1 =>
    (if x1 ≤ p1 then
    some (none, V)
  else
    Option.bind (g_rR L V 3 h0 2) fun x2 =>
    Option.bind x2 fun a3 =>
    Option.bind (g_aR L V 104 a3 p1) fun x4 =>
    some (x4, V)))
set_option maxHeartbeats 4000000 in
set_option maxRecDepth 100000 in
theorem t_A_stepAt_0 (C : gC E bA p s m args meth c b_A_stepAt R_A 2) (hr : meth.sig.returnType = (some (.object "EarlyCut$Step"))) {z : Option Nat × gV} (h0 : Nat) (p1 : Int32) (V : gV) (h : D_A_stepAt h0 p1 L V = some z) : vW E base bA 2 p l e rm_A_stepAt s m args below meth c 0 0 (g_MQ E base bA below args s 0 0 L z.2 (some (tR z.1))) L V 0 [(0, tR (some h0)), (1, tI p1)] [] := by
  unfold D_A_stepAt at h
  refine r_iload_n (x := p1) C d_A_stepAt_0 rfl rfl ?_
  refine r_if_lt C 21 d_A_stepAt_1 (by decide) (fun c6 => ?_) (fun c6 => ?_)
  · rw [if_pos c6] at h
    refine r_null C d_A_stepAt_21 ?_
    cases h
    exact r_aret C hr d_A_stepAt_22
  · rw [if_neg c6] at h
    refine r_iload_n (x := p1) C d_A_stepAt_4 rfl rfl ?_
    refine r_aload_n (x := (some h0)) C d_A_stepAt_5 rfl rfl ?_
    replace h := g_ob h; obtain ⟨x1, e_x1, h⟩ := h
    refine r_getI C f_A_25 d_A_stepAt_6 e_x1 ?_
    refine r_icmp_ge C 21 d_A_stepAt_9 (by decide) (fun c5 => ?_) (fun c5 => ?_)
    · rw [if_pos c5] at h
      refine r_null C d_A_stepAt_21 ?_
      cases h
      exact r_aret C hr d_A_stepAt_22
    · rw [if_neg c5] at h
      refine r_aload_n (x := (some h0)) C d_A_stepAt_12 rfl rfl ?_
      replace h := g_ob h; obtain ⟨x2, e_x2, h⟩ := h
      refine r_getR C f_A_21 d_A_stepAt_13 e_x2 ?_
      refine r_iload_n (x := p1) C d_A_stepAt_16 rfl rfl ?_
      replace h := g_ob h; obtain ⟨a3, rfl, h⟩ := h
      replace h := g_ob h; obtain ⟨x4, e_x4, h⟩ := h
      refine r_aald C ak_104 rfl d_A_stepAt_17 e_x4 ?_
      refine r_goto C 22 d_A_stepAt_18 (by decide) ?_
      cases h
      exact r_aret C hr d_A_stepAt_22
theorem c_A_stepAt (l : Launch) (E : gE) (base bA : Nat) (h0 : Nat) (p1 : Int32) (L : gL) (V : gV) {z : Option Nat × gV} (h : D_A_stepAt h0 p1 L V = some z) : g_Met l E base bA y_A_stepAt b_A_stepAt 2 (some (.object "EarlyCut$Step")) rm_A_stepAt [tR (some h0), tI p1] L V (some (tR z.1)) L z.2 :=
  r_enter R_A (by decide) rfl [tR (some h0), tI p1] [(0, tR (some h0)), (1, tI p1)] rfl (Nat.le_of_ble_eq_true rfl) (fun p e s m args below meth c C hr hnm => t_A_stepAt_0 C hr h0 p1 V h)
def rm_A_codeOfFile : Room := { frames := 0, cells := 0, slots := 0, locals := 0 }
def D_A_codeOfFile (p0 : Int32) (L : gL) (V : gV) : Option (Int32 × gV) :=
  some (p0, V)
set_option maxHeartbeats 4000000 in
set_option maxRecDepth 100000 in
theorem t_A_codeOfFile_0 (C : gC E bA p s m args meth c b_A_codeOfFile R_A 1) (hr : meth.sig.returnType = (some .int)) {z : Int32 × gV} (p0 : Int32) (V : gV) (h : D_A_codeOfFile p0 L V = some z) : vW E base bA 1 p l e rm_A_codeOfFile s m args below meth c 0 0 (g_MQ E base bA below args s 0 0 L z.2 (some (tI z.1))) L V 0 [(0, tI p0)] [] := by
  unfold D_A_codeOfFile at h
  refine r_iload_n (x := p0) C d_A_codeOfFile_0 rfl rfl ?_
  cases h
  exact r_iret C hr d_A_codeOfFile_1
theorem c_A_codeOfFile (l : Launch) (E : gE) (base bA : Nat) (p0 : Int32) (L : gL) (V : gV) {z : Int32 × gV} (h : D_A_codeOfFile p0 L V = some z) : g_Met l E base bA y_A_codeOfFile b_A_codeOfFile 1 (some .int) rm_A_codeOfFile [tI p0] L V (some (tI z.1)) L z.2 :=
  r_enter R_A (by decide) rfl [tI p0] [(0, tI p0)] rfl (Nat.le_of_ble_eq_true rfl) (fun p e s m args below meth c C hr hnm => t_A_codeOfFile_0 C hr p0 V h)
def rm_A_readsFile : Room := { frames := 2, cells := 0, slots := 0, locals := 43 }
def D_A_readsFile (h0 : Nat) (p1 : Int32) (p2 : Int32) (L : gL) (V : gV) : Option (Int32 × gV) :=
  Option.bind ((L).2 3 h0) fun n14 =>
    g_b2 (D_A_stepAt h0 p1 L V) fun r1 V2 =>
    (g_on r1
    (some ((0 : Int32), V2))
    (fun a3 =>
    Option.bind ((L).2 3 h0) fun n13 =>
    g_b2 (D_A_sourceAt h0 p2 L V2) fun r4 V5 =>
    (g_on r4
    (some ((0 : Int32), V5))
    (fun a6 =>
    g_b2 (D_A_codeOfFile p2 L V5) fun r7 V8 =>
    Option.bind ((L).2 2 a3) fun n12 =>
    g_b2 (D_T_addRead a3 r7 L V8) fun r9 V10 =>
    Option.bind (g_bz r9) fun _ =>
    some (r9, V10)))))
set_option maxHeartbeats 4000000 in
set_option maxRecDepth 100000 in
theorem t_A_readsFile_0 (C : gC E base p s m args meth c b_A_readsFile R_A 4) (hr : meth.sig.returnType = (some .boolean)) {z : Int32 × gV} (h0 : Nat) (p1 : Int32) (p2 : Int32) (V : gV) (h : D_A_readsFile h0 p1 p2 L V = some z) : vW E base base 4 p l e rm_A_readsFile s m args below meth c 0 0 (g_MQ E base base below args s 0 0 L z.2 (some (tI z.1))) L V 0 [(0, tR (some h0)), (1, tI p1), (2, tI p2)] [] := by
  unfold D_A_readsFile at h
  refine r_aload_n (x := (some h0)) C d_A_readsFile_0 rfl rfl ?_
  refine r_iload_n (x := p1) C d_A_readsFile_1 rfl rfl ?_
  replace h := g_ob h; obtain ⟨n14, e_n14, h⟩ := h
  replace h := g_o2 h; obtain ⟨r1, V2, e_r1, h⟩ := h
  refine r_callV (As := [tI p1]) C k_A_59 w_111 w_112 w_102 ⟨_, _, rfl⟩ (c_A_stepAt l E base base h0 p1 L V e_r1) d_A_readsFile_2 e_n14 rfl ⟨Nat.le_of_ble_eq_true rfl, Nat.le_of_ble_eq_true rfl⟩ (Nat.le_of_ble_eq_true rfl) (Nat.le_of_ble_eq_true rfl) (Nat.le_of_ble_eq_true rfl) rfl ?_
  refine r_astore_n (lv' := [(3, tR r1), (0, tR (some h0)), (1, tI p1), (2, tI p2)]) C d_A_readsFile_5 rfl (by decide) rfl ?_
  refine r_aload_n (x := r1) C d_A_readsFile_6 rfl rfl ?_
  replace h := g_oon h; rcases h with ⟨rfl, h⟩ | ⟨a3, rfl, h⟩
  · refine r_ifnull_t C 18 d_A_readsFile_7 (by decide) ?_
    refine r_iconst C (0 : Int32) d_A_readsFile_18 (by decide) ?_
    cases h
    exact r_zret C hr d_A_readsFile_19 (Or.inl rfl)
  · refine r_ifnull_f C d_A_readsFile_7 ?_
    refine r_aload_n (x := (some h0)) C d_A_readsFile_10 rfl rfl ?_
    refine r_iload_n (x := p2) C d_A_readsFile_11 rfl rfl ?_
    replace h := g_ob h; obtain ⟨n13, e_n13, h⟩ := h
    replace h := g_o2 h; obtain ⟨r4, V5, e_r4, h⟩ := h
    refine r_callV (As := [tI p2]) C k_A_41 w_95 w_96 w_90 ⟨_, _, rfl⟩ (c_A_sourceAt l E base base h0 p2 L V2 e_r4) d_A_readsFile_12 e_n13 rfl ⟨Nat.le_of_ble_eq_true rfl, Nat.le_of_ble_eq_true rfl⟩ (Nat.le_of_ble_eq_true rfl) (Nat.le_of_ble_eq_true rfl) (Nat.le_of_ble_eq_true rfl) rfl ?_
    replace h := g_oon h; rcases h with ⟨rfl, h⟩ | ⟨a6, rfl, h⟩
    · refine r_ifnonnull_f C d_A_readsFile_15 ?_
      refine r_iconst C (0 : Int32) d_A_readsFile_18 (by decide) ?_
      cases h
      exact r_zret C hr d_A_readsFile_19 (Or.inl rfl)
    · refine r_ifnonnull_t C 20 d_A_readsFile_15 (by decide) ?_
      refine r_aload_n (x := (some a3)) C d_A_readsFile_20 rfl rfl ?_
      refine r_iload_n (x := p2) C d_A_readsFile_21 rfl rfl ?_
      replace h := g_o2 h; obtain ⟨r7, V8, e_r7, h⟩ := h
      refine r_callS (As := [tI p2]) C k_A_63 w_110 w_104 (c_A_codeOfFile l E base base p2 L V5 e_r7) d_A_readsFile_22 rfl ⟨Nat.le_of_ble_eq_true rfl, Nat.le_of_ble_eq_true rfl⟩ (Nat.le_of_ble_eq_true rfl) (Nat.le_of_ble_eq_true rfl) (Nat.le_of_ble_eq_true rfl) rfl ?_
      replace h := g_ob h; obtain ⟨n12, e_n12, h⟩ := h
      replace h := g_o2 h; obtain ⟨r9, V10, e_r9, h⟩ := h
      refine r_callV (As := [tI r7]) C k_A_67 w_108 w_109 w_106 ⟨_, _, rfl⟩ (c_T_addRead l E base a3 r7 L V8 e_r9) d_A_readsFile_25 e_n12 rfl ⟨Nat.le_of_ble_eq_true rfl, Nat.le_of_ble_eq_true rfl⟩ (Nat.le_of_ble_eq_true rfl) (Nat.le_of_ble_eq_true rfl) (Nat.le_of_ble_eq_true rfl) rfl ?_
      replace h := g_ob h; obtain ⟨u11, e_u11, h⟩ := h
      cases h
      exact r_zret C hr d_A_readsFile_28 (g_bz_spec e_u11)
theorem c_A_readsFile (l : Launch) (E : gE) (base : Nat) (h0 : Nat) (p1 : Int32) (p2 : Int32) (L : gL) (V : gV) {z : Int32 × gV} (h : D_A_readsFile h0 p1 p2 L V = some z) : g_Met l E base base y_A_readsFile b_A_readsFile 4 (some .boolean) rm_A_readsFile [tR (some h0), tI p1, tI p2] L V (some (tI z.1)) L z.2 :=
  r_enter R_A (by decide) rfl [tR (some h0), tI p1, tI p2] [(0, tR (some h0)), (1, tI p1), (2, tI p2)] rfl (Nat.le_of_ble_eq_true rfl) (fun p e s m args below meth c C hr hnm => t_A_readsFile_0 C hr h0 p1 p2 V h)
def rm_A_isPart : Room := { frames := 0, cells := 0, slots := 0, locals := 0 }
def D_A_isPart_9 (L : gL)  (V : gV) : Option (Int32 × gV) :=
  some ((1 : Int32), V)
def D_A_isPart (p0 : Int32) (L : gL) (V : gV) : Option (Int32 × gV) :=
  (if p0 = 0 then
    D_A_isPart_9 L   V
  else
    (if p0 = (1 : Int32) then
    D_A_isPart_9 L   V
  else
    some ((0 : Int32), V)))
set_option maxHeartbeats 4000000 in
set_option maxRecDepth 100000 in
theorem t_A_isPart_9 (C : gC E bA p s m args meth c b_A_isPart R_A 1) (hr : meth.sig.returnType = (some .boolean)) {z : Int32 × gV}  (V : gV) (h : D_A_isPart_9 L   V = some z) : vW E base bA 1 p l e rm_A_isPart s m args below meth c 0 0 (g_MQ E base bA below args s 0 0 L z.2 (some (tI z.1))) L V 9 [] [] := by
  unfold D_A_isPart_9 at h
  refine r_iconst C (1 : Int32) d_A_isPart_9 (by decide) ?_
  refine r_goto C 14 d_A_isPart_10 (by decide) ?_
  cases h
  exact r_zret C hr d_A_isPart_14 (Or.inr rfl)
set_option maxHeartbeats 4000000 in
set_option maxRecDepth 100000 in
theorem t_A_isPart_0 (C : gC E bA p s m args meth c b_A_isPart R_A 1) (hr : meth.sig.returnType = (some .boolean)) {z : Int32 × gV} (p0 : Int32) (V : gV) (h : D_A_isPart p0 L V = some z) : vW E base bA 1 p l e rm_A_isPart s m args below meth c 0 0 (g_MQ E base bA below args s 0 0 L z.2 (some (tI z.1))) L V 0 [(0, tI p0)] [] := by
  unfold D_A_isPart at h
  refine r_iload_n (x := p0) C d_A_isPart_0 rfl rfl ?_
  refine r_if_eq C 9 d_A_isPart_1 (by decide) (fun c2 => ?_) (fun c2 => ?_)
  · rw [if_pos c2] at h
    refine r_lv [] rfl ?_
    exact t_A_isPart_9 C hr   V h
  · rw [if_neg c2] at h
    refine r_iload_n (x := p0) C d_A_isPart_4 rfl rfl ?_
    refine r_iconst C (1 : Int32) d_A_isPart_5 (by decide) ?_
    refine r_icmp_ne C 13 d_A_isPart_6 (by decide) (fun c1 => ?_) (fun c1 => ?_)
    · rw [if_neg c1] at h
      refine r_iconst C (0 : Int32) d_A_isPart_13 (by decide) ?_
      cases h
      exact r_zret C hr d_A_isPart_14 (Or.inl rfl)
    · rw [if_pos c1] at h
      refine r_lv [] rfl ?_
      exact t_A_isPart_9 C hr   V h
theorem c_A_isPart (l : Launch) (E : gE) (base bA : Nat) (p0 : Int32) (L : gL) (V : gV) {z : Int32 × gV} (h : D_A_isPart p0 L V = some z) : g_Met l E base bA y_A_isPart b_A_isPart 1 (some .boolean) rm_A_isPart [tI p0] L V (some (tI z.1)) L z.2 :=
  r_enter R_A (by decide) rfl [tI p0] [(0, tI p0)] rfl (Nat.le_of_ble_eq_true rfl) (fun p e s m args below meth c C hr hnm => t_A_isPart_0 C hr p0 V h)
def rm_A_codeOfPart : Room := { frames := 0, cells := 0, slots := 0, locals := 0 }
def D_A_codeOfPart (p0 : Int32) (p1 : Int32) (L : gL) (V : gV) : Option (Int32 × gV) :=
  some (((16 : Int32) + ((2 : Int32) * p0)) + p1, V)
set_option maxHeartbeats 4000000 in
set_option maxRecDepth 100000 in
theorem t_A_codeOfPart_0 (C : gC E bA p s m args meth c b_A_codeOfPart R_A 2) (hr : meth.sig.returnType = (some .int)) {z : Int32 × gV} (p0 : Int32) (p1 : Int32) (V : gV) (h : D_A_codeOfPart p0 p1 L V = some z) : vW E base bA 2 p l e rm_A_codeOfPart s m args below meth c 0 0 (g_MQ E base bA below args s 0 0 L z.2 (some (tI z.1))) L V 0 [(0, tI p0), (1, tI p1)] [] := by
  unfold D_A_codeOfPart at h
  refine r_bipush C (16 : Int32) d_A_codeOfPart_0 (by decide) ?_
  refine r_iconst C (2 : Int32) d_A_codeOfPart_2 (by decide) ?_
  refine r_iload_n (x := p0) C d_A_codeOfPart_3 rfl rfl ?_
  refine r_imul C d_A_codeOfPart_4 ?_
  refine r_iadd C d_A_codeOfPart_5 ?_
  refine r_iload_n (x := p1) C d_A_codeOfPart_6 rfl rfl ?_
  refine r_iadd C d_A_codeOfPart_7 ?_
  cases h
  exact r_iret C hr d_A_codeOfPart_8
theorem c_A_codeOfPart (l : Launch) (E : gE) (base bA : Nat) (p0 : Int32) (p1 : Int32) (L : gL) (V : gV) {z : Int32 × gV} (h : D_A_codeOfPart p0 p1 L V = some z) : g_Met l E base bA y_A_codeOfPart b_A_codeOfPart 2 (some .int) rm_A_codeOfPart [tI p0, tI p1] L V (some (tI z.1)) L z.2 :=
  r_enter R_A (by decide) rfl [tI p0, tI p1] [(0, tI p0), (1, tI p1)] rfl (Nat.le_of_ble_eq_true rfl) (fun p e s m args below meth c C hr hnm => t_A_codeOfPart_0 C hr p0 p1 V h)
def rm_A_readsPart : Room := { frames := 2, cells := 0, slots := 0, locals := 43 }
def D_A_readsPart (h0 : Nat) (p1 : Int32) (p2 : Int32) (p3 : Int32) (L : gL) (V : gV) : Option (Int32 × gV) :=
  Option.bind ((L).2 3 h0) fun n18 =>
    g_b2 (D_A_stepAt h0 p1 L V) fun r1 V2 =>
    (g_on r1
    (some ((0 : Int32), V2))
    (fun a3 =>
    Option.bind ((L).2 3 h0) fun n17 =>
    g_b2 (D_A_stepAt h0 p2 L V2) fun r4 V5 =>
    (g_on r4
    (some ((0 : Int32), V5))
    (fun a6 =>
    g_b2 (D_A_isPart p3 L V5) fun r7 V8 =>
    (if r7 = 0 then
    some ((0 : Int32), V8)
  else
    (if p2 < p1 then
    g_b2 (D_A_codeOfPart p2 p3 L V8) fun r9 V10 =>
    Option.bind ((L).2 2 a3) fun n14 =>
    g_b2 (D_T_addRead a3 r9 L V10) fun r11 V12 =>
    Option.bind (g_bz r11) fun _ =>
    some (r11, V12)
  else
    some ((0 : Int32), V8)))))))
set_option maxHeartbeats 4000000 in
set_option maxRecDepth 100000 in
theorem t_A_readsPart_0 (C : gC E base p s m args meth c b_A_readsPart R_A 5) (hr : meth.sig.returnType = (some .boolean)) {z : Int32 × gV} (h0 : Nat) (p1 : Int32) (p2 : Int32) (p3 : Int32) (V : gV) (h : D_A_readsPart h0 p1 p2 p3 L V = some z) : vW E base base 5 p l e rm_A_readsPart s m args below meth c 0 0 (g_MQ E base base below args s 0 0 L z.2 (some (tI z.1))) L V 0 [(0, tR (some h0)), (1, tI p1), (2, tI p2), (3, tI p3)] [] := by
  unfold D_A_readsPart at h
  refine r_aload_n (x := (some h0)) C d_A_readsPart_0 rfl rfl ?_
  refine r_iload_n (x := p1) C d_A_readsPart_1 rfl rfl ?_
  replace h := g_ob h; obtain ⟨n18, e_n18, h⟩ := h
  replace h := g_o2 h; obtain ⟨r1, V2, e_r1, h⟩ := h
  refine r_callV (As := [tI p1]) C k_A_59 w_111 w_112 w_102 ⟨_, _, rfl⟩ (c_A_stepAt l E base base h0 p1 L V e_r1) d_A_readsPart_2 e_n18 rfl ⟨Nat.le_of_ble_eq_true rfl, Nat.le_of_ble_eq_true rfl⟩ (Nat.le_of_ble_eq_true rfl) (Nat.le_of_ble_eq_true rfl) (Nat.le_of_ble_eq_true rfl) rfl ?_
  refine r_astore (lv' := [(4, tR r1), (0, tR (some h0)), (1, tI p1), (2, tI p2), (3, tI p3)]) C d_A_readsPart_5 (by decide) rfl ?_
  refine r_aload (x := r1) C d_A_readsPart_7 rfl ?_
  replace h := g_oon h; rcases h with ⟨rfl, h⟩ | ⟨a3, rfl, h⟩
  · refine r_ifnull_t C 32 d_A_readsPart_9 (by decide) ?_
    refine r_iconst C (0 : Int32) d_A_readsPart_32 (by decide) ?_
    cases h
    exact r_zret C hr d_A_readsPart_33 (Or.inl rfl)
  · refine r_ifnull_f C d_A_readsPart_9 ?_
    refine r_aload_n (x := (some h0)) C d_A_readsPart_12 rfl rfl ?_
    refine r_iload_n (x := p2) C d_A_readsPart_13 rfl rfl ?_
    replace h := g_ob h; obtain ⟨n17, e_n17, h⟩ := h
    replace h := g_o2 h; obtain ⟨r4, V5, e_r4, h⟩ := h
    refine r_callV (As := [tI p2]) C k_A_59 w_111 w_112 w_102 ⟨_, _, rfl⟩ (c_A_stepAt l E base base h0 p2 L V2 e_r4) d_A_readsPart_14 e_n17 rfl ⟨Nat.le_of_ble_eq_true rfl, Nat.le_of_ble_eq_true rfl⟩ (Nat.le_of_ble_eq_true rfl) (Nat.le_of_ble_eq_true rfl) (Nat.le_of_ble_eq_true rfl) rfl ?_
    replace h := g_oon h; rcases h with ⟨rfl, h⟩ | ⟨a6, rfl, h⟩
    · refine r_ifnull_t C 32 d_A_readsPart_17 (by decide) ?_
      refine r_iconst C (0 : Int32) d_A_readsPart_32 (by decide) ?_
      cases h
      exact r_zret C hr d_A_readsPart_33 (Or.inl rfl)
    · refine r_ifnull_f C d_A_readsPart_17 ?_
      refine r_iload_n (x := p3) C d_A_readsPart_20 rfl rfl ?_
      replace h := g_o2 h; obtain ⟨r7, V8, e_r7, h⟩ := h
      refine r_callS (As := [tI p3]) C k_A_71 w_118 w_113 (c_A_isPart l E base base p3 L V5 e_r7) d_A_readsPart_21 rfl ⟨Nat.le_of_ble_eq_true rfl, Nat.le_of_ble_eq_true rfl⟩ (Nat.le_of_ble_eq_true rfl) (Nat.le_of_ble_eq_true rfl) (Nat.le_of_ble_eq_true rfl) rfl ?_
      refine r_if_eq C 32 d_A_readsPart_24 (by decide) (fun c16 => ?_) (fun c16 => ?_)
      · rw [if_pos c16] at h
        refine r_iconst C (0 : Int32) d_A_readsPart_32 (by decide) ?_
        cases h
        exact r_zret C hr d_A_readsPart_33 (Or.inl rfl)
      · rw [if_neg c16] at h
        refine r_iload_n (x := p2) C d_A_readsPart_27 rfl rfl ?_
        refine r_iload_n (x := p1) C d_A_readsPart_28 rfl rfl ?_
        refine r_icmp_lt C 34 d_A_readsPart_29 (by decide) (fun c15 => ?_) (fun c15 => ?_)
        · rw [if_pos c15] at h
          refine r_aload (x := (some a3)) C d_A_readsPart_34 rfl ?_
          refine r_iload_n (x := p2) C d_A_readsPart_36 rfl rfl ?_
          refine r_iload_n (x := p3) C d_A_readsPart_37 rfl rfl ?_
          replace h := g_o2 h; obtain ⟨r9, V10, e_r9, h⟩ := h
          refine r_callS (As := [tI p2, tI p3]) C k_A_74 w_117 w_115 (c_A_codeOfPart l E base base p2 p3 L V8 e_r9) d_A_readsPart_38 rfl ⟨Nat.le_of_ble_eq_true rfl, Nat.le_of_ble_eq_true rfl⟩ (Nat.le_of_ble_eq_true rfl) (Nat.le_of_ble_eq_true rfl) (Nat.le_of_ble_eq_true rfl) rfl ?_
          replace h := g_ob h; obtain ⟨n14, e_n14, h⟩ := h
          replace h := g_o2 h; obtain ⟨r11, V12, e_r11, h⟩ := h
          refine r_callV (As := [tI r9]) C k_A_67 w_108 w_109 w_106 ⟨_, _, rfl⟩ (c_T_addRead l E base a3 r9 L V10 e_r11) d_A_readsPart_41 e_n14 rfl ⟨Nat.le_of_ble_eq_true rfl, Nat.le_of_ble_eq_true rfl⟩ (Nat.le_of_ble_eq_true rfl) (Nat.le_of_ble_eq_true rfl) (Nat.le_of_ble_eq_true rfl) rfl ?_
          replace h := g_ob h; obtain ⟨u13, e_u13, h⟩ := h
          cases h
          exact r_zret C hr d_A_readsPart_44 (g_bz_spec e_u13)
        · rw [if_neg c15] at h
          refine r_iconst C (0 : Int32) d_A_readsPart_32 (by decide) ?_
          cases h
          exact r_zret C hr d_A_readsPart_33 (Or.inl rfl)
theorem c_A_readsPart (l : Launch) (E : gE) (base : Nat) (h0 : Nat) (p1 : Int32) (p2 : Int32) (p3 : Int32) (L : gL) (V : gV) {z : Int32 × gV} (h : D_A_readsPart h0 p1 p2 p3 L V = some z) : g_Met l E base base y_A_readsPart b_A_readsPart 5 (some .boolean) rm_A_readsPart [tR (some h0), tI p1, tI p2, tI p3] L V (some (tI z.1)) L z.2 :=
  r_enter R_A (by decide) rfl [tR (some h0), tI p1, tI p2, tI p3] [(0, tR (some h0)), (1, tI p1), (2, tI p2), (3, tI p3)] rfl (Nat.le_of_ble_eq_true rfl) (fun p e s m args below meth c C hr hnm => t_A_readsPart_0 C hr h0 p1 p2 p3 V h)
def rm_A_force : Room := { frames := 1, cells := 0, slots := 0, locals := 21 }
def D_A_force (h0 : Nat) (p1 : Int32) (L : gL) (V : gV) : Option (Int32 × gV) :=
  Option.bind ((L).2 3 h0) fun n7 =>
    g_b2 (D_A_stepAt h0 p1 L V) fun r1 V2 =>
    (g_on r1
    (some ((0 : Int32), V2))
    (fun a3 =>
    Option.bind (g_rI L V2 2 a3 6) fun x4 =>
    (if x4 = 0 then
    Option.bind (g_wr L V2 2 a3 6 (tI (1 : Int32))) fun V5 =>
    some ((1 : Int32), V5)
  else
    some ((0 : Int32), V2))))
set_option maxHeartbeats 4000000 in
set_option maxRecDepth 100000 in
theorem t_A_force_0 (C : gC E base p s m args meth c b_A_force R_A 3) (hr : meth.sig.returnType = (some .boolean)) {z : Int32 × gV} (h0 : Nat) (p1 : Int32) (V : gV) (h : D_A_force h0 p1 L V = some z) : vW E base base 3 p l e rm_A_force s m args below meth c 0 0 (g_MQ E base base below args s 0 0 L z.2 (some (tI z.1))) L V 0 [(0, tR (some h0)), (1, tI p1)] [] := by
  unfold D_A_force at h
  refine r_aload_n (x := (some h0)) C d_A_force_0 rfl rfl ?_
  refine r_iload_n (x := p1) C d_A_force_1 rfl rfl ?_
  replace h := g_ob h; obtain ⟨n7, e_n7, h⟩ := h
  replace h := g_o2 h; obtain ⟨r1, V2, e_r1, h⟩ := h
  refine r_callV (As := [tI p1]) C k_A_59 w_111 w_112 w_102 ⟨_, _, rfl⟩ (c_A_stepAt l E base base h0 p1 L V e_r1) d_A_force_2 e_n7 rfl ⟨Nat.le_of_ble_eq_true rfl, Nat.le_of_ble_eq_true rfl⟩ (Nat.le_of_ble_eq_true rfl) (Nat.le_of_ble_eq_true rfl) (Nat.le_of_ble_eq_true rfl) rfl ?_
  refine r_astore_n (lv' := [(2, tR r1), (0, tR (some h0)), (1, tI p1)]) C d_A_force_5 rfl (by decide) rfl ?_
  refine r_aload_n (x := r1) C d_A_force_6 rfl rfl ?_
  replace h := g_oon h; rcases h with ⟨rfl, h⟩ | ⟨a3, rfl, h⟩
  · refine r_ifnull_t C 17 d_A_force_7 (by decide) ?_
    refine r_iconst C (0 : Int32) d_A_force_17 (by decide) ?_
    cases h
    exact r_zret C hr d_A_force_18 (Or.inl rfl)
  · refine r_ifnull_f C d_A_force_7 ?_
    refine r_aload_n (x := (some a3)) C d_A_force_10 rfl rfl ?_
    replace h := g_ob h; obtain ⟨x4, e_x4, h⟩ := h
    refine r_getI C f_A_78 d_A_force_11 e_x4 ?_
    refine r_if_eq C 19 d_A_force_14 (by decide) (fun c6 => ?_) (fun c6 => ?_)
    · rw [if_pos c6] at h
      refine r_aload_n (x := (some a3)) C d_A_force_19 rfl rfl ?_
      refine r_iconst C (1 : Int32) d_A_force_20 (by decide) ?_
      replace h := g_ob h; obtain ⟨V5, e_V5, h⟩ := h
      refine r_put C f_A_78 d_A_force_21 e_V5 (g_nZ (x := (1 : Int32)) (Or.inr rfl)).1 (g_nZ (x := (1 : Int32)) (Or.inr rfl)).2 ?_
      refine r_iconst C (1 : Int32) d_A_force_24 (by decide) ?_
      cases h
      exact r_zret C hr d_A_force_25 (Or.inr rfl)
    · rw [if_neg c6] at h
      refine r_iconst C (0 : Int32) d_A_force_17 (by decide) ?_
      cases h
      exact r_zret C hr d_A_force_18 (Or.inl rfl)
theorem c_A_force (l : Launch) (E : gE) (base : Nat) (h0 : Nat) (p1 : Int32) (L : gL) (V : gV) {z : Int32 × gV} (h : D_A_force h0 p1 L V = some z) : g_Met l E base base y_A_force b_A_force 3 (some .boolean) rm_A_force [tR (some h0), tI p1] L V (some (tI z.1)) L z.2 :=
  r_enter R_A (by decide) rfl [tR (some h0), tI p1] [(0, tR (some h0)), (1, tI p1)] rfl (Nat.le_of_ble_eq_true rfl) (fun p e s m args below meth c C hr hnm => t_A_force_0 C hr h0 p1 V h)
def rm_A_forgetLatestBuild : Room := { frames := 1, cells := 0, slots := 0, locals := 20 }
def D_A_forgetLatestBuild_27 (L : gL) : Nat → Nat → Int32 → gV → Option (Unit × gV)
  | 0, _, _, _ => none
  | n + 1, v0, v1, V =>
  (if (5 : Int32) ≤ v1 then
    some ((), V)
  else
    Option.bind (g_rR L V 3 v0 4) fun x1 =>
    Option.bind x1 fun a2 =>
    Option.bind (g_wa L V 100 a2 v1 (tI (0 : Int32))) fun V3 =>
    D_A_forgetLatestBuild_27 L  n v0 (v1 + (1 : Int32)) V3)
def D_A_forgetLatestBuild_2 (L : gL) : Nat → Nat → Int32 → gV → Option (Unit × gV)
  | 0, _, _, _ => none
  | n + 1, v0, v1, V =>
  Option.bind (g_rI L V 3 v0 3) fun x1 =>
    (if x1 ≤ v1 then
    D_A_forgetLatestBuild_27 L  1000 v0 (0 : Int32) V
  else
    Option.bind (g_rR L V 3 v0 2) fun x2 =>
    Option.bind x2 fun a3 =>
    Option.bind (g_aR L V 104 a3 v1) fun x4 =>
    Option.bind x4 fun a5 =>
    Option.bind ((L).2 2 a5) fun n8 =>
    g_b2 (D_T_forgetLatestBuild a5 L V) fun r6 V7 =>
    D_A_forgetLatestBuild_2 L  n v0 (v1 + (1 : Int32)) V7)
def D_A_forgetLatestBuild (h0 : Nat) (L : gL) (V : gV) : Option (Unit × gV) :=
  D_A_forgetLatestBuild_2 L  1000 h0 (0 : Int32) V
set_option maxHeartbeats 4000000 in
set_option maxRecDepth 100000 in
theorem t_A_forgetLatestBuild_27 (C : gC E base p s m args meth c b_A_forgetLatestBuild R_A 2) (hr : meth.sig.returnType = none) {z : Unit × gV} : ∀ (n : Nat) (v0 : Nat) (v1 : Int32) (V : gV), D_A_forgetLatestBuild_27 L  n v0 v1 V = some z → vW E base base 2 p l e rm_A_forgetLatestBuild s m args below meth c 0 0 (g_MQ E base base below args s 0 0 L z.2 none) L V 27 [(0, tR (some v0)), (1, tI v1)] [] := by
  intro n
  induction n with
  | zero =>
    intro v0 v1 V h
    rw [D_A_forgetLatestBuild_27] at h
    cases h
  | succ n ih =>
    intro v0 v1 V h
    rw [D_A_forgetLatestBuild_27] at h
    refine r_iload_n (x := v1) C d_A_forgetLatestBuild_27 rfl rfl ?_
    refine r_iconst C (5 : Int32) d_A_forgetLatestBuild_28 (by decide) ?_
    refine r_icmp_ge C 45 d_A_forgetLatestBuild_29 (by decide) (fun c4 => ?_) (fun c4 => ?_)
    · rw [if_pos c4] at h
      cases h
      exact r_vret C hr d_A_forgetLatestBuild_45
    · rw [if_neg c4] at h
      refine r_aload_n (x := (some v0)) C d_A_forgetLatestBuild_32 rfl rfl ?_
      replace h := g_ob h; obtain ⟨x1, e_x1, h⟩ := h
      refine r_getR C f_A_28 d_A_forgetLatestBuild_33 e_x1 ?_
      refine r_iload_n (x := v1) C d_A_forgetLatestBuild_36 rfl rfl ?_
      refine r_iconst C (0 : Int32) d_A_forgetLatestBuild_37 (by decide) ?_
      replace h := g_ob h; obtain ⟨a2, rfl, h⟩ := h
      replace h := g_ob h; obtain ⟨V3, e_V3, h⟩ := h
      refine r_iast C ak_100 d_A_forgetLatestBuild_38 e_V3 ?_
      refine r_iinc (x := v1) (v := v1 + (1 : Int32)) (lv' := [(1, tI (v1 + (1 : Int32))), (0, tR (some v0))]) C d_A_forgetLatestBuild_39 rfl rfl (by decide) rfl ?_
      refine r_goto C 27 d_A_forgetLatestBuild_42 (by decide) ?_
      refine r_lv [1, 0] rfl ?_
      exact ih v0 (v1 + (1 : Int32)) V3 h
set_option maxHeartbeats 4000000 in
set_option maxRecDepth 100000 in
theorem t_A_forgetLatestBuild_2 (C : gC E base p s m args meth c b_A_forgetLatestBuild R_A 2) (hr : meth.sig.returnType = none) {z : Unit × gV} : ∀ (n : Nat) (v0 : Nat) (v1 : Int32) (V : gV), D_A_forgetLatestBuild_2 L  n v0 v1 V = some z → vW E base base 2 p l e rm_A_forgetLatestBuild s m args below meth c 0 0 (g_MQ E base base below args s 0 0 L z.2 none) L V 2 [(0, tR (some v0)), (1, tI v1)] [] := by
  intro n
  induction n with
  | zero =>
    intro v0 v1 V h
    rw [D_A_forgetLatestBuild_2] at h
    cases h
  | succ n ih =>
    intro v0 v1 V h
    rw [D_A_forgetLatestBuild_2] at h
    refine r_iload_n (x := v1) C d_A_forgetLatestBuild_2 rfl rfl ?_
    refine r_aload_n (x := (some v0)) C d_A_forgetLatestBuild_3 rfl rfl ?_
    replace h := g_ob h; obtain ⟨x1, e_x1, h⟩ := h
    refine r_getI C f_A_25 d_A_forgetLatestBuild_4 e_x1 ?_
    refine r_icmp_ge C 25 d_A_forgetLatestBuild_7 (by decide) (fun c9 => ?_) (fun c9 => ?_)
    · rw [if_pos c9] at h
      refine r_iconst C (0 : Int32) d_A_forgetLatestBuild_25 (by decide) ?_
      refine r_istore_n (lv' := [(1, tI (0 : Int32)), (0, tR (some v0))]) C d_A_forgetLatestBuild_26 rfl (by decide) rfl ?_
      refine r_lv [1, 0] rfl ?_
      exact t_A_forgetLatestBuild_27 C hr  1000 v0 (0 : Int32) V h
    · rw [if_neg c9] at h
      refine r_aload_n (x := (some v0)) C d_A_forgetLatestBuild_10 rfl rfl ?_
      replace h := g_ob h; obtain ⟨x2, e_x2, h⟩ := h
      refine r_getR C f_A_21 d_A_forgetLatestBuild_11 e_x2 ?_
      refine r_iload_n (x := v1) C d_A_forgetLatestBuild_14 rfl rfl ?_
      replace h := g_ob h; obtain ⟨a3, rfl, h⟩ := h
      replace h := g_ob h; obtain ⟨x4, e_x4, h⟩ := h
      refine r_aald C ak_104 rfl d_A_forgetLatestBuild_15 e_x4 ?_
      replace h := g_ob h; obtain ⟨a5, rfl, h⟩ := h
      replace h := g_ob h; obtain ⟨n8, e_n8, h⟩ := h
      replace h := g_o2 h; obtain ⟨r6, V7, e_r6, h⟩ := h
      refine r_callV (As := []) C k_A_145 w_122 w_123 w_120 ⟨_, _, rfl⟩ (c_T_forgetLatestBuild l E base a5 L V e_r6) d_A_forgetLatestBuild_16 e_n8 rfl ⟨Nat.le_of_ble_eq_true rfl, Nat.le_of_ble_eq_true rfl⟩ (Nat.le_of_ble_eq_true rfl) (Nat.le_of_ble_eq_true rfl) (Nat.le_of_ble_eq_true rfl) rfl ?_
      refine r_iinc (x := v1) (v := v1 + (1 : Int32)) (lv' := [(1, tI (v1 + (1 : Int32))), (0, tR (some v0))]) C d_A_forgetLatestBuild_19 rfl rfl (by decide) rfl ?_
      refine r_goto C 2 d_A_forgetLatestBuild_22 (by decide) ?_
      refine r_lv [1, 0] rfl ?_
      exact ih v0 (v1 + (1 : Int32)) V7 h
set_option maxHeartbeats 4000000 in
set_option maxRecDepth 100000 in
theorem t_A_forgetLatestBuild_0 (C : gC E base p s m args meth c b_A_forgetLatestBuild R_A 2) (hr : meth.sig.returnType = none) {z : Unit × gV} (h0 : Nat) (V : gV) (h : D_A_forgetLatestBuild h0 L V = some z) : vW E base base 2 p l e rm_A_forgetLatestBuild s m args below meth c 0 0 (g_MQ E base base below args s 0 0 L z.2 none) L V 0 [(0, tR (some h0))] [] := by
  unfold D_A_forgetLatestBuild at h
  refine r_iconst C (0 : Int32) d_A_forgetLatestBuild_0 (by decide) ?_
  refine r_istore_n (lv' := [(1, tI (0 : Int32)), (0, tR (some h0))]) C d_A_forgetLatestBuild_1 rfl (by decide) rfl ?_
  refine r_lv [1, 0] rfl ?_
  exact t_A_forgetLatestBuild_2 C hr  1000 h0 (0 : Int32) V h
theorem c_A_forgetLatestBuild (l : Launch) (E : gE) (base : Nat) (h0 : Nat) (L : gL) (V : gV) {z : Unit × gV} (h : D_A_forgetLatestBuild h0 L V = some z) : g_Met l E base base y_A_forgetLatestBuild b_A_forgetLatestBuild 2 none rm_A_forgetLatestBuild [tR (some h0)] L V none L z.2 :=
  r_enter R_A (by decide) rfl [tR (some h0)] [(0, tR (some h0))] rfl (Nat.le_of_ble_eq_true rfl) (fun p e s m args below meth c C hr hnm => t_A_forgetLatestBuild_0 C hr h0 V h)
def rm_A_isFileCode : Room := { frames := 0, cells := 0, slots := 0, locals := 0 }
def D_A_isFileCode (p0 : Int32) (L : gL) (V : gV) : Option (Int32 × gV) :=
  (if (16 : Int32) ≤ p0 then
    some ((0 : Int32), V)
  else
    some ((1 : Int32), V))
set_option maxHeartbeats 4000000 in
set_option maxRecDepth 100000 in
theorem t_A_isFileCode_0 (C : gC E bA p s m args meth c b_A_isFileCode R_A 1) (hr : meth.sig.returnType = (some .boolean)) {z : Int32 × gV} (p0 : Int32) (V : gV) (h : D_A_isFileCode p0 L V = some z) : vW E base bA 1 p l e rm_A_isFileCode s m args below meth c 0 0 (g_MQ E base bA below args s 0 0 L z.2 (some (tI z.1))) L V 0 [(0, tI p0)] [] := by
  unfold D_A_isFileCode at h
  refine r_iload_n (x := p0) C d_A_isFileCode_0 rfl rfl ?_
  refine r_bipush C (16 : Int32) d_A_isFileCode_1 (by decide) ?_
  refine r_icmp_ge C 10 d_A_isFileCode_3 (by decide) (fun c1 => ?_) (fun c1 => ?_)
  · rw [if_pos c1] at h
    refine r_iconst C (0 : Int32) d_A_isFileCode_10 (by decide) ?_
    cases h
    exact r_zret C hr d_A_isFileCode_11 (Or.inl rfl)
  · rw [if_neg c1] at h
    refine r_iconst C (1 : Int32) d_A_isFileCode_6 (by decide) ?_
    refine r_goto C 11 d_A_isFileCode_7 (by decide) ?_
    cases h
    exact r_zret C hr d_A_isFileCode_11 (Or.inr rfl)
theorem c_A_isFileCode (l : Launch) (E : gE) (base bA : Nat) (p0 : Int32) (L : gL) (V : gV) {z : Int32 × gV} (h : D_A_isFileCode p0 L V = some z) : g_Met l E base bA y_A_isFileCode b_A_isFileCode 1 (some .boolean) rm_A_isFileCode [tI p0] L V (some (tI z.1)) L z.2 :=
  r_enter R_A (by decide) rfl [tI p0] [(0, tI p0)] rfl (Nat.le_of_ble_eq_true rfl) (fun p e s m args below meth c C hr hnm => t_A_isFileCode_0 C hr p0 V h)
def rm_A_stepOfCode : Room := { frames := 1, cells := 0, slots := 0, locals := 21 }
def D_A_stepOfCode (h0 : Nat) (p1 : Int32) (L : gL) (V : gV) : Option (Option Nat × gV) :=
  Option.bind ((L).2 3 h0) fun n3 =>
    g_b2 (D_A_stepAt h0 ((p1 - (16 : Int32)) / (2 : Int32)) L V) fun r1 V2 =>
    some (r1, V2)
set_option maxHeartbeats 4000000 in
set_option maxRecDepth 100000 in
theorem t_A_stepOfCode_0 (C : gC E bA p s m args meth c b_A_stepOfCode R_A 2) (hr : meth.sig.returnType = (some (.object "EarlyCut$Step"))) {z : Option Nat × gV} (h0 : Nat) (p1 : Int32) (V : gV) (h : D_A_stepOfCode h0 p1 L V = some z) : vW E base bA 2 p l e rm_A_stepOfCode s m args below meth c 0 0 (g_MQ E base bA below args s 0 0 L z.2 (some (tR z.1))) L V 0 [(0, tR (some h0)), (1, tI p1)] [] := by
  unfold D_A_stepOfCode at h
  refine r_aload_n (x := (some h0)) C d_A_stepOfCode_0 rfl rfl ?_
  refine r_iload_n (x := p1) C d_A_stepOfCode_1 rfl rfl ?_
  refine r_bipush C (16 : Int32) d_A_stepOfCode_2 (by decide) ?_
  refine r_isub C d_A_stepOfCode_4 ?_
  refine r_iconst C (2 : Int32) d_A_stepOfCode_5 (by decide) ?_
  refine r_idiv C d_A_stepOfCode_6 (by decide) ?_
  replace h := g_ob h; obtain ⟨n3, e_n3, h⟩ := h
  replace h := g_o2 h; obtain ⟨r1, V2, e_r1, h⟩ := h
  refine r_callV (As := [tI ((p1 - (16 : Int32)) / (2 : Int32))]) C k_A_59 w_111 w_112 w_102 ⟨_, _, rfl⟩ (c_A_stepAt l E base bA h0 ((p1 - (16 : Int32)) / (2 : Int32)) L V e_r1) d_A_stepOfCode_7 e_n3 rfl ⟨Nat.le_of_ble_eq_true rfl, Nat.le_of_ble_eq_true rfl⟩ (Nat.le_of_ble_eq_true rfl) (Nat.le_of_ble_eq_true rfl) (Nat.le_of_ble_eq_true rfl) rfl ?_
  cases h
  exact r_aret C hr d_A_stepOfCode_10
theorem c_A_stepOfCode (l : Launch) (E : gE) (base bA : Nat) (h0 : Nat) (p1 : Int32) (L : gL) (V : gV) {z : Option Nat × gV} (h : D_A_stepOfCode h0 p1 L V = some z) : g_Met l E base bA y_A_stepOfCode b_A_stepOfCode 2 (some (.object "EarlyCut$Step")) rm_A_stepOfCode [tR (some h0), tI p1] L V (some (tR z.1)) L z.2 :=
  r_enter R_A (by decide) rfl [tR (some h0), tI p1] [(0, tR (some h0)), (1, tI p1)] rfl (Nat.le_of_ble_eq_true rfl) (fun p e s m args below meth c C hr hnm => t_A_stepOfCode_0 C hr h0 p1 V h)
def rm_A_takeStepsReadBy : Room := { frames := 2, cells := 0, slots := 0, locals := 42 }
def D_A_takeStepsReadBy_2 (L : gL) : Nat → Nat → Nat → Int32 → gV → Option (Unit × gV)
  | 0, _, _, _, _ => none
  | n + 1, v0, v1, v2, V =>
  Option.bind (g_rI L V 2 v1 3) fun x1 =>
    (if x1 ≤ v2 then
    some ((), V)
  else
    Option.bind (g_rR L V 2 v1 2) fun x2 =>
    Option.bind x2 fun a3 =>
    Option.bind (g_aI L V 100 a3 v2) fun x4 =>
    g_b2 (D_A_isFileCode x4 L V) fun r5 V6 =>
    (if r5 = 0 then
    Option.bind (g_rR L V6 2 v1 2) fun x7 =>
    Option.bind x7 fun a8 =>
    Option.bind (g_aI L V6 100 a8 v2) fun x9 =>
    Option.bind ((L).2 3 v0) fun n14 =>
    g_b2 (D_A_stepOfCode v0 x9 L V6) fun r10 V11 =>
    (g_on r10
    (D_A_takeStepsReadBy_2 L  n v0 v1 (v2 + (1 : Int32)) V11)
    (fun a12 =>
    Option.bind (g_wr L V11 2 a12 7 (tI (1 : Int32))) fun V13 =>
    D_A_takeStepsReadBy_2 L  n v0 v1 (v2 + (1 : Int32)) V13))
  else
    D_A_takeStepsReadBy_2 L  n v0 v1 (v2 + (1 : Int32)) V6))
def D_A_takeStepsReadBy (h0 : Nat) (p1 : Nat) (L : gL) (V : gV) : Option (Unit × gV) :=
  D_A_takeStepsReadBy_2 L  1000 h0 p1 (0 : Int32) V
set_option maxHeartbeats 4000000 in
set_option maxRecDepth 100000 in
theorem t_A_takeStepsReadBy_2 (C : gC E base p s m args meth c b_A_takeStepsReadBy R_A 4) (hr : meth.sig.returnType = none) {z : Unit × gV} : ∀ (n : Nat) (v0 : Nat) (v1 : Nat) (v2 : Int32) (V : gV), D_A_takeStepsReadBy_2 L  n v0 v1 v2 V = some z → vW E base base 4 p l e rm_A_takeStepsReadBy s m args below meth c 0 0 (g_MQ E base base below args s 0 0 L z.2 none) L V 2 [(0, tR (some v0)), (1, tR (some v1)), (2, tI v2)] [] := by
  intro n
  induction n with
  | zero =>
    intro v0 v1 v2 V h
    rw [D_A_takeStepsReadBy_2] at h
    cases h
  | succ n ih =>
    intro v0 v1 v2 V h
    rw [D_A_takeStepsReadBy_2] at h
    refine r_iload_n (x := v2) C d_A_takeStepsReadBy_2 rfl rfl ?_
    refine r_aload_n (x := (some v1)) C d_A_takeStepsReadBy_3 rfl rfl ?_
    replace h := g_ob h; obtain ⟨x1, e_x1, h⟩ := h
    refine r_getI C f_A_130 d_A_takeStepsReadBy_4 e_x1 ?_
    refine r_icmp_ge C 48 d_A_takeStepsReadBy_7 (by decide) (fun c16 => ?_) (fun c16 => ?_)
    · rw [if_pos c16] at h
      cases h
      exact r_vret C hr d_A_takeStepsReadBy_48
    · rw [if_neg c16] at h
      refine r_aload_n (x := (some v1)) C d_A_takeStepsReadBy_10 rfl rfl ?_
      replace h := g_ob h; obtain ⟨x2, e_x2, h⟩ := h
      refine r_getR C f_A_149 d_A_takeStepsReadBy_11 e_x2 ?_
      refine r_iload_n (x := v2) C d_A_takeStepsReadBy_14 rfl rfl ?_
      replace h := g_ob h; obtain ⟨a3, rfl, h⟩ := h
      replace h := g_ob h; obtain ⟨x4, e_x4, h⟩ := h
      refine r_iald C ak_100 d_A_takeStepsReadBy_15 e_x4 ?_
      replace h := g_o2 h; obtain ⟨r5, V6, e_r5, h⟩ := h
      refine r_callS (As := [tI x4]) C k_A_152 w_135 w_129 (c_A_isFileCode l E base base x4 L V e_r5) d_A_takeStepsReadBy_16 rfl ⟨Nat.le_of_ble_eq_true rfl, Nat.le_of_ble_eq_true rfl⟩ (Nat.le_of_ble_eq_true rfl) (Nat.le_of_ble_eq_true rfl) (Nat.le_of_ble_eq_true rfl) rfl ?_
      refine r_if_ne C 42 d_A_takeStepsReadBy_19 (by decide) (fun c15 => ?_) (fun c15 => ?_)
      · rw [if_neg c15] at h
        refine r_iinc (x := v2) (v := v2 + (1 : Int32)) (lv' := [(2, tI (v2 + (1 : Int32))), (0, tR (some v0)), (1, tR (some v1))]) C d_A_takeStepsReadBy_42 rfl rfl (by decide) rfl ?_
        refine r_goto C 2 d_A_takeStepsReadBy_45 (by decide) ?_
        refine r_lv [1, 2, 0] rfl ?_
        exact ih v0 v1 (v2 + (1 : Int32)) V6 h
      · rw [if_pos c15] at h
        refine r_aload_n (x := (some v0)) C d_A_takeStepsReadBy_22 rfl rfl ?_
        refine r_aload_n (x := (some v1)) C d_A_takeStepsReadBy_23 rfl rfl ?_
        replace h := g_ob h; obtain ⟨x7, e_x7, h⟩ := h
        refine r_getR C f_A_149 d_A_takeStepsReadBy_24 e_x7 ?_
        refine r_iload_n (x := v2) C d_A_takeStepsReadBy_27 rfl rfl ?_
        replace h := g_ob h; obtain ⟨a8, rfl, h⟩ := h
        replace h := g_ob h; obtain ⟨x9, e_x9, h⟩ := h
        refine r_iald C ak_100 d_A_takeStepsReadBy_28 e_x9 ?_
        replace h := g_ob h; obtain ⟨n14, e_n14, h⟩ := h
        replace h := g_o2 h; obtain ⟨r10, V11, e_r10, h⟩ := h
        refine r_callV (As := [tI x9]) C k_A_155 w_133 w_134 w_131 ⟨_, _, rfl⟩ (c_A_stepOfCode l E base base v0 x9 L V6 e_r10) d_A_takeStepsReadBy_29 e_n14 rfl ⟨Nat.le_of_ble_eq_true rfl, Nat.le_of_ble_eq_true rfl⟩ (Nat.le_of_ble_eq_true rfl) (Nat.le_of_ble_eq_true rfl) (Nat.le_of_ble_eq_true rfl) rfl ?_
        refine r_astore_n (lv' := [(3, tR r10), (0, tR (some v0)), (1, tR (some v1)), (2, tI v2)]) C d_A_takeStepsReadBy_32 rfl (by decide) rfl ?_
        refine r_aload_n (x := r10) C d_A_takeStepsReadBy_33 rfl rfl ?_
        replace h := g_oon h; rcases h with ⟨rfl, h⟩ | ⟨a12, rfl, h⟩
        · refine r_ifnull_t C 42 d_A_takeStepsReadBy_34 (by decide) ?_
          refine r_iinc (x := v2) (v := v2 + (1 : Int32)) (lv' := [(2, tI (v2 + (1 : Int32))), (3, tR none), (0, tR (some v0)), (1, tR (some v1))]) C d_A_takeStepsReadBy_42 rfl rfl (by decide) rfl ?_
          refine r_goto C 2 d_A_takeStepsReadBy_45 (by decide) ?_
          refine r_lv [2, 3, 0] rfl ?_
          exact ih v0 v1 (v2 + (1 : Int32)) V11 h
        · refine r_ifnull_f C d_A_takeStepsReadBy_34 ?_
          refine r_aload_n (x := (some a12)) C d_A_takeStepsReadBy_37 rfl rfl ?_
          refine r_iconst C (1 : Int32) d_A_takeStepsReadBy_38 (by decide) ?_
          replace h := g_ob h; obtain ⟨V13, e_V13, h⟩ := h
          refine r_put C f_A_88 d_A_takeStepsReadBy_39 e_V13 (g_nZ (x := (1 : Int32)) (Or.inr rfl)).1 (g_nZ (x := (1 : Int32)) (Or.inr rfl)).2 ?_
          refine r_iinc (x := v2) (v := v2 + (1 : Int32)) (lv' := [(2, tI (v2 + (1 : Int32))), (3, tR (some a12)), (0, tR (some v0)), (1, tR (some v1))]) C d_A_takeStepsReadBy_42 rfl rfl (by decide) rfl ?_
          refine r_goto C 2 d_A_takeStepsReadBy_45 (by decide) ?_
          refine r_lv [2, 3, 0] rfl ?_
          exact ih v0 v1 (v2 + (1 : Int32)) V13 h
set_option maxHeartbeats 4000000 in
set_option maxRecDepth 100000 in
theorem t_A_takeStepsReadBy_0 (C : gC E base p s m args meth c b_A_takeStepsReadBy R_A 4) (hr : meth.sig.returnType = none) {z : Unit × gV} (h0 : Nat) (p1 : Nat) (V : gV) (h : D_A_takeStepsReadBy h0 p1 L V = some z) : vW E base base 4 p l e rm_A_takeStepsReadBy s m args below meth c 0 0 (g_MQ E base base below args s 0 0 L z.2 none) L V 0 [(0, tR (some h0)), (1, tR (some p1))] [] := by
  unfold D_A_takeStepsReadBy at h
  refine r_iconst C (0 : Int32) d_A_takeStepsReadBy_0 (by decide) ?_
  refine r_istore_n (lv' := [(2, tI (0 : Int32)), (0, tR (some h0)), (1, tR (some p1))]) C d_A_takeStepsReadBy_1 rfl (by decide) rfl ?_
  refine r_lv [1, 2, 0] rfl ?_
  exact t_A_takeStepsReadBy_2 C hr  1000 h0 p1 (0 : Int32) V h
theorem c_A_takeStepsReadBy (l : Launch) (E : gE) (base : Nat) (h0 : Nat) (p1 : Nat) (L : gL) (V : gV) {z : Unit × gV} (h : D_A_takeStepsReadBy h0 p1 L V = some z) : g_Met l E base base y_A_takeStepsReadBy b_A_takeStepsReadBy 4 none rm_A_takeStepsReadBy [tR (some h0), tR (some p1)] L V none L z.2 :=
  r_enter R_A (by decide) rfl [tR (some h0), tR (some p1)] [(0, tR (some h0)), (1, tR (some p1))] rfl (Nat.le_of_ble_eq_true rfl) (fun p e s m args below meth c C hr hnm => t_A_takeStepsReadBy_0 C hr h0 p1 V h)
def rm_A_takeNeeded : Room := { frames := 3, cells := 0, slots := 0, locals := 65 }
def D_A_takeNeeded_31 (L : gL) (K7 : Nat → Int32 → Int32 → gV → Option (Unit × gV)) (v0 : Nat) (v1 : Int32) (v2 : Int32) (v3 : Option Nat) (V : gV) : Option (Unit × gV) :=
  Option.bind v3 fun a1 =>
    Option.bind (g_rI L V 2 a1 7) fun x2 =>
    (if x2 = 0 then
    K7 v0 v1 (v2 + (-1 : Int32)) V
  else
    Option.bind ((L).2 3 v0) fun n5 =>
    g_b2 (D_A_takeStepsReadBy v0 a1 L V) fun r3 V4 =>
    K7 v0 v1 (v2 + (-1 : Int32)) V4)
def D_A_takeNeeded_7 (L : gL) : Nat → Nat → Int32 → Int32 → gV → Option (Unit × gV)
  | 0, _, _, _, _ => none
  | n + 1, v0, v1, v2, V =>
  (if v2 < 0 then
    some ((), V)
  else
    Option.bind (g_rR L V 3 v0 2) fun x1 =>
    Option.bind x1 fun a2 =>
    Option.bind (g_aR L V 104 a2 v2) fun x3 =>
    (if (((v1.toUInt32 >>> (v2.toUInt32 &&& Int32.toUInt32 31)).toInt32) &&& (1 : Int32)) = 0 then
    D_A_takeNeeded_31 L (D_A_takeNeeded_7 L  n) v0 v1 v2 x3 V
  else
    Option.bind x3 fun a4 =>
    Option.bind (g_wr L V 2 a4 7 (tI (1 : Int32))) fun V5 =>
    D_A_takeNeeded_31 L (D_A_takeNeeded_7 L  n) v0 v1 v2 (some a4) V5))
def D_A_takeNeeded (h0 : Nat) (p1 : Int32) (L : gL) (V : gV) : Option (Unit × gV) :=
  Option.bind (g_rI L V 3 h0 3) fun x1 =>
    D_A_takeNeeded_7 L  1000 h0 p1 (x1 - (1 : Int32)) V
set_option maxHeartbeats 4000000 in
set_option maxRecDepth 100000 in
theorem t_A_takeNeeded_31 (C : gC E base p s m args meth c b_A_takeNeeded R_A 4) (hr : meth.sig.returnType = none) {z : Unit × gV} (K7 : Nat → Int32 → Int32 → gV → Option (Unit × gV)) (hK7 : ∀ (v0 : Nat) (v1 : Int32) (v2 : Int32) (V : gV), K7 v0 v1 v2 V = some z → vW E base base 4 p l e rm_A_takeNeeded s m args below meth c 0 0 (g_MQ E base base below args s 0 0 L z.2 none) L V 7 [(0, tR (some v0)), (1, tI v1), (2, tI v2)] []) (v0 : Nat) (v1 : Int32) (v2 : Int32) (v3 : Option Nat) (V : gV) (h : D_A_takeNeeded_31 L K7 v0 v1 v2 v3 V = some z) : vW E base base 4 p l e rm_A_takeNeeded s m args below meth c 0 0 (g_MQ E base base below args s 0 0 L z.2 none) L V 31 [(0, tR (some v0)), (1, tI v1), (2, tI v2), (3, tR v3)] [] := by
  unfold D_A_takeNeeded_31 at h
  refine r_aload_n (x := v3) C d_A_takeNeeded_31 rfl rfl ?_
  replace h := g_ob h; obtain ⟨a1, rfl, h⟩ := h
  replace h := g_ob h; obtain ⟨x2, e_x2, h⟩ := h
  refine r_getI C f_A_88 d_A_takeNeeded_32 e_x2 ?_
  refine r_if_eq C 43 d_A_takeNeeded_35 (by decide) (fun c6 => ?_) (fun c6 => ?_)
  · rw [if_pos c6] at h
    refine r_iinc (x := v2) (v := v2 + (-1 : Int32)) (lv' := [(2, tI (v2 + (-1 : Int32))), (0, tR (some v0)), (1, tI v1), (3, tR (some a1))]) C d_A_takeNeeded_43 rfl rfl (by decide) rfl ?_
    refine r_goto C 7 d_A_takeNeeded_46 (by decide) ?_
    refine r_lv [1, 2, 0] rfl ?_
    exact hK7 v0 v1 (v2 + (-1 : Int32)) V h
  · rw [if_neg c6] at h
    refine r_aload_n (x := (some v0)) C d_A_takeNeeded_38 rfl rfl ?_
    refine r_aload_n (x := (some a1)) C d_A_takeNeeded_39 rfl rfl ?_
    replace h := g_ob h; obtain ⟨n5, e_n5, h⟩ := h
    replace h := g_o2 h; obtain ⟨r3, V4, e_r3, h⟩ := h
    refine r_callV (As := [tR (some a1)]) C k_A_146 w_138 w_139 w_136 ⟨_, _, rfl⟩ (c_A_takeStepsReadBy l E base v0 a1 L V e_r3) d_A_takeNeeded_40 e_n5 rfl ⟨Nat.le_of_ble_eq_true rfl, Nat.le_of_ble_eq_true rfl⟩ (Nat.le_of_ble_eq_true rfl) (Nat.le_of_ble_eq_true rfl) (Nat.le_of_ble_eq_true rfl) rfl ?_
    refine r_iinc (x := v2) (v := v2 + (-1 : Int32)) (lv' := [(2, tI (v2 + (-1 : Int32))), (0, tR (some v0)), (1, tI v1), (3, tR (some a1))]) C d_A_takeNeeded_43 rfl rfl (by decide) rfl ?_
    refine r_goto C 7 d_A_takeNeeded_46 (by decide) ?_
    refine r_lv [1, 2, 0] rfl ?_
    exact hK7 v0 v1 (v2 + (-1 : Int32)) V4 h
set_option maxHeartbeats 4000000 in
set_option maxRecDepth 100000 in
theorem t_A_takeNeeded_7 (C : gC E base p s m args meth c b_A_takeNeeded R_A 4) (hr : meth.sig.returnType = none) {z : Unit × gV} : ∀ (n : Nat) (v0 : Nat) (v1 : Int32) (v2 : Int32) (V : gV), D_A_takeNeeded_7 L  n v0 v1 v2 V = some z → vW E base base 4 p l e rm_A_takeNeeded s m args below meth c 0 0 (g_MQ E base base below args s 0 0 L z.2 none) L V 7 [(0, tR (some v0)), (1, tI v1), (2, tI v2)] [] := by
  intro n
  induction n with
  | zero =>
    intro v0 v1 v2 V h
    rw [D_A_takeNeeded_7] at h
    cases h
  | succ n ih =>
    intro v0 v1 v2 V h
    rw [D_A_takeNeeded_7] at h
    refine r_iload_n (x := v2) C d_A_takeNeeded_7 rfl rfl ?_
    refine r_if_lt C 49 d_A_takeNeeded_8 (by decide) (fun c7 => ?_) (fun c7 => ?_)
    · rw [if_pos c7] at h
      cases h
      exact r_vret C hr d_A_takeNeeded_49
    · rw [if_neg c7] at h
      refine r_aload_n (x := (some v0)) C d_A_takeNeeded_11 rfl rfl ?_
      replace h := g_ob h; obtain ⟨x1, e_x1, h⟩ := h
      refine r_getR C f_A_21 d_A_takeNeeded_12 e_x1 ?_
      refine r_iload_n (x := v2) C d_A_takeNeeded_15 rfl rfl ?_
      replace h := g_ob h; obtain ⟨a2, rfl, h⟩ := h
      replace h := g_ob h; obtain ⟨x3, e_x3, h⟩ := h
      refine r_aald C ak_104 rfl d_A_takeNeeded_16 e_x3 ?_
      refine r_astore_n (lv' := [(3, tR x3), (0, tR (some v0)), (1, tI v1), (2, tI v2)]) C d_A_takeNeeded_17 rfl (by decide) rfl ?_
      refine r_iload_n (x := v1) C d_A_takeNeeded_18 rfl rfl ?_
      refine r_iload_n (x := v2) C d_A_takeNeeded_19 rfl rfl ?_
      refine r_iushr C d_A_takeNeeded_20 ?_
      refine r_iconst C (1 : Int32) d_A_takeNeeded_21 (by decide) ?_
      refine r_iand C d_A_takeNeeded_22 ?_
      refine r_if_eq C 31 d_A_takeNeeded_23 (by decide) (fun c6 => ?_) (fun c6 => ?_)
      · rw [if_pos c6] at h
        refine r_lv [1, 2, 3, 0] rfl ?_
        exact t_A_takeNeeded_31 C hr (D_A_takeNeeded_7 L  n) ih v0 v1 v2 x3 V h
      · rw [if_neg c6] at h
        refine r_aload_n (x := x3) C d_A_takeNeeded_26 rfl rfl ?_
        refine r_iconst C (1 : Int32) d_A_takeNeeded_27 (by decide) ?_
        replace h := g_ob h; obtain ⟨a4, rfl, h⟩ := h
        replace h := g_ob h; obtain ⟨V5, e_V5, h⟩ := h
        refine r_put C f_A_88 d_A_takeNeeded_28 e_V5 (g_nZ (x := (1 : Int32)) (Or.inr rfl)).1 (g_nZ (x := (1 : Int32)) (Or.inr rfl)).2 ?_
        refine r_lv [1, 2, 3, 0] rfl ?_
        exact t_A_takeNeeded_31 C hr (D_A_takeNeeded_7 L  n) ih v0 v1 v2 (some a4) V5 h
set_option maxHeartbeats 4000000 in
set_option maxRecDepth 100000 in
theorem t_A_takeNeeded_0 (C : gC E base p s m args meth c b_A_takeNeeded R_A 4) (hr : meth.sig.returnType = none) {z : Unit × gV} (h0 : Nat) (p1 : Int32) (V : gV) (h : D_A_takeNeeded h0 p1 L V = some z) : vW E base base 4 p l e rm_A_takeNeeded s m args below meth c 0 0 (g_MQ E base base below args s 0 0 L z.2 none) L V 0 [(0, tR (some h0)), (1, tI p1)] [] := by
  unfold D_A_takeNeeded at h
  refine r_aload_n (x := (some h0)) C d_A_takeNeeded_0 rfl rfl ?_
  replace h := g_ob h; obtain ⟨x1, e_x1, h⟩ := h
  refine r_getI C f_A_25 d_A_takeNeeded_1 e_x1 ?_
  refine r_iconst C (1 : Int32) d_A_takeNeeded_4 (by decide) ?_
  refine r_isub C d_A_takeNeeded_5 ?_
  refine r_istore_n (lv' := [(2, tI (x1 - (1 : Int32))), (0, tR (some h0)), (1, tI p1)]) C d_A_takeNeeded_6 rfl (by decide) rfl ?_
  refine r_lv [1, 2, 0] rfl ?_
  exact t_A_takeNeeded_7 C hr  1000 h0 p1 (x1 - (1 : Int32)) V h
theorem c_A_takeNeeded (l : Launch) (E : gE) (base : Nat) (h0 : Nat) (p1 : Int32) (L : gL) (V : gV) {z : Unit × gV} (h : D_A_takeNeeded h0 p1 L V = some z) : g_Met l E base base y_A_takeNeeded b_A_takeNeeded 4 none rm_A_takeNeeded [tR (some h0), tI p1] L V none L z.2 :=
  r_enter R_A (by decide) rfl [tR (some h0), tI p1] [(0, tR (some h0)), (1, tI p1)] rfl (Nat.le_of_ble_eq_true rfl) (fun p e s m args below meth c C hr hnm => t_A_takeNeeded_0 C hr h0 p1 V h)
def rm_A_isThereNow : Room := { frames := 1, cells := 0, slots := 0, locals := 21 }
def D_A_isThereNow (h0 : Nat) (p1 : Int32) (L : gL) (V : gV) : Option (Int32 × gV) :=
  g_b2 (D_A_isFileCode p1 L V) fun r1 V2 =>
    (if r1 = 0 then
    some ((1 : Int32), V2)
  else
    Option.bind ((L).2 3 h0) fun n8 =>
    g_b2 (D_A_sourceAt h0 p1 L V2) fun r3 V4 =>
    (g_on r3
    (some ((0 : Int32), V4))
    (fun a5 =>
    Option.bind (g_rI L V4 1 a5 0) fun x6 =>
    (if x6 = 0 then
    some ((0 : Int32), V4)
  else
    some ((1 : Int32), V4)))))
set_option maxHeartbeats 4000000 in
set_option maxRecDepth 100000 in
theorem t_A_isThereNow_0 (C : gC E bA p s m args meth c b_A_isThereNow R_A 3) (hr : meth.sig.returnType = (some .boolean)) {z : Int32 × gV} (h0 : Nat) (p1 : Int32) (V : gV) (h : D_A_isThereNow h0 p1 L V = some z) : vW E base bA 3 p l e rm_A_isThereNow s m args below meth c 0 0 (g_MQ E base bA below args s 0 0 L z.2 (some (tI z.1))) L V 0 [(0, tR (some h0)), (1, tI p1)] [] := by
  unfold D_A_isThereNow at h
  refine r_iload_n (x := p1) C d_A_isThereNow_0 rfl rfl ?_
  replace h := g_o2 h; obtain ⟨r1, V2, e_r1, h⟩ := h
  refine r_callS (As := [tI p1]) C k_A_152 w_135 w_129 (c_A_isFileCode l E base bA p1 L V e_r1) d_A_isThereNow_1 rfl ⟨Nat.le_of_ble_eq_true rfl, Nat.le_of_ble_eq_true rfl⟩ (Nat.le_of_ble_eq_true rfl) (Nat.le_of_ble_eq_true rfl) (Nat.le_of_ble_eq_true rfl) rfl ?_
  refine r_if_ne C 9 d_A_isThereNow_4 (by decide) (fun c9 => ?_) (fun c9 => ?_)
  · rw [if_neg c9] at h
    refine r_aload_n (x := (some h0)) C d_A_isThereNow_9 rfl rfl ?_
    refine r_iload_n (x := p1) C d_A_isThereNow_10 rfl rfl ?_
    replace h := g_ob h; obtain ⟨n8, e_n8, h⟩ := h
    replace h := g_o2 h; obtain ⟨r3, V4, e_r3, h⟩ := h
    refine r_callV (As := [tI p1]) C k_A_41 w_95 w_96 w_90 ⟨_, _, rfl⟩ (c_A_sourceAt l E base bA h0 p1 L V2 e_r3) d_A_isThereNow_11 e_n8 rfl ⟨Nat.le_of_ble_eq_true rfl, Nat.le_of_ble_eq_true rfl⟩ (Nat.le_of_ble_eq_true rfl) (Nat.le_of_ble_eq_true rfl) (Nat.le_of_ble_eq_true rfl) rfl ?_
    refine r_astore_n (lv' := [(2, tR r3), (0, tR (some h0)), (1, tI p1)]) C d_A_isThereNow_14 rfl (by decide) rfl ?_
    refine r_aload_n (x := r3) C d_A_isThereNow_15 rfl rfl ?_
    replace h := g_oon h; rcases h with ⟨rfl, h⟩ | ⟨a5, rfl, h⟩
    · refine r_ifnull_t C 30 d_A_isThereNow_16 (by decide) ?_
      refine r_iconst C (0 : Int32) d_A_isThereNow_30 (by decide) ?_
      cases h
      exact r_zret C hr d_A_isThereNow_31 (Or.inl rfl)
    · refine r_ifnull_f C d_A_isThereNow_16 ?_
      refine r_aload_n (x := (some a5)) C d_A_isThereNow_19 rfl rfl ?_
      replace h := g_ob h; obtain ⟨x6, e_x6, h⟩ := h
      refine r_getI C f_A_45 d_A_isThereNow_20 e_x6 ?_
      refine r_if_eq C 30 d_A_isThereNow_23 (by decide) (fun c7 => ?_) (fun c7 => ?_)
      · rw [if_pos c7] at h
        refine r_iconst C (0 : Int32) d_A_isThereNow_30 (by decide) ?_
        cases h
        exact r_zret C hr d_A_isThereNow_31 (Or.inl rfl)
      · rw [if_neg c7] at h
        refine r_iconst C (1 : Int32) d_A_isThereNow_26 (by decide) ?_
        refine r_goto C 31 d_A_isThereNow_27 (by decide) ?_
        cases h
        exact r_zret C hr d_A_isThereNow_31 (Or.inr rfl)
  · rw [if_pos c9] at h
    refine r_iconst C (1 : Int32) d_A_isThereNow_7 (by decide) ?_
    cases h
    exact r_zret C hr d_A_isThereNow_8 (Or.inr rfl)
theorem c_A_isThereNow (l : Launch) (E : gE) (base bA : Nat) (h0 : Nat) (p1 : Int32) (L : gL) (V : gV) {z : Int32 × gV} (h : D_A_isThereNow h0 p1 L V = some z) : g_Met l E base bA y_A_isThereNow b_A_isThereNow 3 (some .boolean) rm_A_isThereNow [tR (some h0), tI p1] L V (some (tI z.1)) L z.2 :=
  r_enter R_A (by decide) rfl [tR (some h0), tI p1] [(0, tR (some h0)), (1, tI p1)] rfl (Nat.le_of_ble_eq_true rfl) (fun p e s m args below meth c C hr hnm => t_A_isThereNow_0 C hr h0 p1 V h)
def rm_A_partOfCode : Room := { frames := 0, cells := 0, slots := 0, locals := 0 }
def D_A_partOfCode (p0 : Int32) (L : gL) (V : gV) : Option (Int32 × gV) :=
  some ((p0 - (16 : Int32)) - (p0 - (16 : Int32)) / (2 : Int32) * (2 : Int32), V)
set_option maxHeartbeats 4000000 in
set_option maxRecDepth 100000 in
theorem t_A_partOfCode_0 (C : gC E bA p s m args meth c b_A_partOfCode R_A 1) (hr : meth.sig.returnType = (some .int)) {z : Int32 × gV} (p0 : Int32) (V : gV) (h : D_A_partOfCode p0 L V = some z) : vW E base bA 1 p l e rm_A_partOfCode s m args below meth c 0 0 (g_MQ E base bA below args s 0 0 L z.2 (some (tI z.1))) L V 0 [(0, tI p0)] [] := by
  unfold D_A_partOfCode at h
  refine r_iload_n (x := p0) C d_A_partOfCode_0 rfl rfl ?_
  refine r_bipush C (16 : Int32) d_A_partOfCode_1 (by decide) ?_
  refine r_isub C d_A_partOfCode_3 ?_
  refine r_iconst C (2 : Int32) d_A_partOfCode_4 (by decide) ?_
  refine r_irem C d_A_partOfCode_5 (by decide) ?_
  cases h
  exact r_iret C hr d_A_partOfCode_6
theorem c_A_partOfCode (l : Launch) (E : gE) (base bA : Nat) (p0 : Int32) (L : gL) (V : gV) {z : Int32 × gV} (h : D_A_partOfCode p0 L V = some z) : g_Met l E base bA y_A_partOfCode b_A_partOfCode 1 (some .int) rm_A_partOfCode [tI p0] L V (some (tI z.1)) L z.2 :=
  r_enter R_A (by decide) rfl [tI p0] [(0, tI p0)] rfl (Nat.le_of_ble_eq_true rfl) (fun p e s m args below meth c C hr hnm => t_A_partOfCode_0 C hr p0 V h)
def rm_A_valueNow : Room := { frames := 2, cells := 0, slots := 0, locals := 42 }
def D_A_valueNow_45 (L : gL) (v1 : Int32) (s0 : Option Nat) (V : gV) : Option (Int64 × gV) :=
  (g_on s0
    (some ((0 : Int64), V))
    (fun a1 =>
    g_b2 (D_A_partOfCode v1 L V) fun r2 V3 =>
    Option.bind ((L).2 0 a1) fun n6 =>
    g_b2 (D_N_partOfOutput a1 r2 L V3) fun r4 V5 =>
    some (r4, V5)))
def D_A_valueNow (h0 : Nat) (p1 : Int32) (L : gL) (V : gV) : Option (Int64 × gV) :=
  g_b2 (D_A_isFileCode p1 L V) fun r1 V2 =>
    (if r1 = 0 then
    Option.bind ((L).2 3 h0) fun n9 =>
    g_b2 (D_A_stepOfCode h0 p1 L V2) fun r3 V4 =>
    (g_on r3
    (D_A_valueNow_45 L  p1 none V4)
    (fun a5 =>
    Option.bind ((L).2 2 a5) fun n8 =>
    g_b2 (D_T_entryAt a5 (0 : Int32) L V4) fun r6 V7 =>
    D_A_valueNow_45 L  p1 r6 V7))
  else
    Option.bind ((L).2 3 h0) fun n14 =>
    g_b2 (D_A_sourceAt h0 p1 L V2) fun r10 V11 =>
    (g_on r10
    (some ((0 : Int64), V11))
    (fun a12 =>
    Option.bind (g_rJ L V11 1 a12 1) fun x13 =>
    some (x13, V11))))
set_option maxHeartbeats 4000000 in
set_option maxRecDepth 100000 in
theorem t_A_valueNow_45 (C : gC E bA p s m args meth c b_A_valueNow R_A 4) (hr : meth.sig.returnType = (some .long)) {z : Int64 × gV} (v1 : Int32) (s0 : Option Nat) (V : gV) (h : D_A_valueNow_45 L  v1 s0 V = some z) : vW E base bA 4 p l e rm_A_valueNow s m args below meth c 0 0 (g_MQ E base bA below args s 0 0 L z.2 (some (tJ z.1))) L V 45 [(1, tI v1)] [tR s0] := by
  unfold D_A_valueNow_45 at h
  refine r_astore_n (lv' := [(3, tR s0), (1, tI v1)]) C d_A_valueNow_45 rfl (by decide) rfl ?_
  refine r_aload_n (x := s0) C d_A_valueNow_46 rfl rfl ?_
  replace h := g_oon h; rcases h with ⟨rfl, h⟩ | ⟨a1, rfl, h⟩
  · refine r_ifnonnull_f C d_A_valueNow_47 ?_
    refine r_lconst C (0 : Int64) d_A_valueNow_50 (by decide) ?_
    refine r_goto C 62 d_A_valueNow_51 (by decide) ?_
    cases h
    exact r_lret C hr d_A_valueNow_62
  · refine r_ifnonnull_t C 54 d_A_valueNow_47 (by decide) ?_
    refine r_aload_n (x := (some a1)) C d_A_valueNow_54 rfl rfl ?_
    refine r_iload_n (x := v1) C d_A_valueNow_55 rfl rfl ?_
    replace h := g_o2 h; obtain ⟨r2, V3, e_r2, h⟩ := h
    refine r_callS (As := [tI v1]) C k_A_217 w_159 w_153 (c_A_partOfCode l E base bA v1 L V e_r2) d_A_valueNow_56 rfl ⟨Nat.le_of_ble_eq_true rfl, Nat.le_of_ble_eq_true rfl⟩ (Nat.le_of_ble_eq_true rfl) (Nat.le_of_ble_eq_true rfl) (Nat.le_of_ble_eq_true rfl) rfl ?_
    replace h := g_ob h; obtain ⟨n6, e_n6, h⟩ := h
    replace h := g_o2 h; obtain ⟨r4, V5, e_r4, h⟩ := h
    refine r_callV (As := [tI r2]) C k_A_123 w_157 w_158 w_155 ⟨_, _, rfl⟩ (c_N_partOfOutput l E base bA a1 r2 L V3 e_r4) d_A_valueNow_59 e_n6 rfl ⟨Nat.le_of_ble_eq_true rfl, Nat.le_of_ble_eq_true rfl⟩ (Nat.le_of_ble_eq_true rfl) (Nat.le_of_ble_eq_true rfl) (Nat.le_of_ble_eq_true rfl) rfl ?_
    cases h
    exact r_lret C hr d_A_valueNow_62
set_option maxHeartbeats 4000000 in
set_option maxRecDepth 100000 in
theorem t_A_valueNow_0 (C : gC E bA p s m args meth c b_A_valueNow R_A 4) (hr : meth.sig.returnType = (some .long)) {z : Int64 × gV} (h0 : Nat) (p1 : Int32) (V : gV) (h : D_A_valueNow h0 p1 L V = some z) : vW E base bA 4 p l e rm_A_valueNow s m args below meth c 0 0 (g_MQ E base bA below args s 0 0 L z.2 (some (tJ z.1))) L V 0 [(0, tR (some h0)), (1, tI p1)] [] := by
  unfold D_A_valueNow at h
  refine r_iload_n (x := p1) C d_A_valueNow_0 rfl rfl ?_
  replace h := g_o2 h; obtain ⟨r1, V2, e_r1, h⟩ := h
  refine r_callS (As := [tI p1]) C k_A_152 w_135 w_129 (c_A_isFileCode l E base bA p1 L V e_r1) d_A_valueNow_1 rfl ⟨Nat.le_of_ble_eq_true rfl, Nat.le_of_ble_eq_true rfl⟩ (Nat.le_of_ble_eq_true rfl) (Nat.le_of_ble_eq_true rfl) (Nat.le_of_ble_eq_true rfl) rfl ?_
  refine r_if_eq C 26 d_A_valueNow_4 (by decide) (fun c15 => ?_) (fun c15 => ?_)
  · rw [if_pos c15] at h
    refine r_aload_n (x := (some h0)) C d_A_valueNow_26 rfl rfl ?_
    refine r_iload_n (x := p1) C d_A_valueNow_27 rfl rfl ?_
    replace h := g_ob h; obtain ⟨n9, e_n9, h⟩ := h
    replace h := g_o2 h; obtain ⟨r3, V4, e_r3, h⟩ := h
    refine r_callV (As := [tI p1]) C k_A_155 w_133 w_134 w_131 ⟨_, _, rfl⟩ (c_A_stepOfCode l E base bA h0 p1 L V2 e_r3) d_A_valueNow_28 e_n9 rfl ⟨Nat.le_of_ble_eq_true rfl, Nat.le_of_ble_eq_true rfl⟩ (Nat.le_of_ble_eq_true rfl) (Nat.le_of_ble_eq_true rfl) (Nat.le_of_ble_eq_true rfl) rfl ?_
    refine r_astore_n (lv' := [(2, tR r3), (0, tR (some h0)), (1, tI p1)]) C d_A_valueNow_31 rfl (by decide) rfl ?_
    refine r_aload_n (x := r3) C d_A_valueNow_32 rfl rfl ?_
    replace h := g_oon h; rcases h with ⟨rfl, h⟩ | ⟨a5, rfl, h⟩
    · refine r_ifnonnull_f C d_A_valueNow_33 ?_
      refine r_null C d_A_valueNow_36 ?_
      refine r_goto C 45 d_A_valueNow_37 (by decide) ?_
      refine r_lv [2] rfl ?_
      exact t_A_valueNow_45 C hr  p1 none V4 h
    · refine r_ifnonnull_t C 40 d_A_valueNow_33 (by decide) ?_
      refine r_aload_n (x := (some a5)) C d_A_valueNow_40 rfl rfl ?_
      refine r_iconst C (0 : Int32) d_A_valueNow_41 (by decide) ?_
      replace h := g_ob h; obtain ⟨n8, e_n8, h⟩ := h
      replace h := g_o2 h; obtain ⟨r6, V7, e_r6, h⟩ := h
      refine r_callV (As := [tI (0 : Int32)]) C k_A_108 w_148 w_149 w_146 ⟨_, _, rfl⟩ (c_T_entryAt l E base bA a5 (0 : Int32) L V4 e_r6) d_A_valueNow_42 e_n8 rfl ⟨Nat.le_of_ble_eq_true rfl, Nat.le_of_ble_eq_true rfl⟩ (Nat.le_of_ble_eq_true rfl) (Nat.le_of_ble_eq_true rfl) (Nat.le_of_ble_eq_true rfl) rfl ?_
      refine r_lv [2] rfl ?_
      exact t_A_valueNow_45 C hr  p1 r6 V7 h
  · rw [if_neg c15] at h
    refine r_aload_n (x := (some h0)) C d_A_valueNow_7 rfl rfl ?_
    refine r_iload_n (x := p1) C d_A_valueNow_8 rfl rfl ?_
    replace h := g_ob h; obtain ⟨n14, e_n14, h⟩ := h
    replace h := g_o2 h; obtain ⟨r10, V11, e_r10, h⟩ := h
    refine r_callV (As := [tI p1]) C k_A_41 w_95 w_96 w_90 ⟨_, _, rfl⟩ (c_A_sourceAt l E base bA h0 p1 L V2 e_r10) d_A_valueNow_9 e_n14 rfl ⟨Nat.le_of_ble_eq_true rfl, Nat.le_of_ble_eq_true rfl⟩ (Nat.le_of_ble_eq_true rfl) (Nat.le_of_ble_eq_true rfl) (Nat.le_of_ble_eq_true rfl) rfl ?_
    refine r_astore_n (lv' := [(2, tR r10), (0, tR (some h0)), (1, tI p1)]) C d_A_valueNow_12 rfl (by decide) rfl ?_
    refine r_aload_n (x := r10) C d_A_valueNow_13 rfl rfl ?_
    replace h := g_oon h; rcases h with ⟨rfl, h⟩ | ⟨a12, rfl, h⟩
    · refine r_ifnonnull_f C d_A_valueNow_14 ?_
      refine r_lconst C (0 : Int64) d_A_valueNow_17 (by decide) ?_
      refine r_goto C 25 d_A_valueNow_18 (by decide) ?_
      cases h
      exact r_lret C hr d_A_valueNow_25
    · refine r_ifnonnull_t C 21 d_A_valueNow_14 (by decide) ?_
      refine r_aload_n (x := (some a12)) C d_A_valueNow_21 rfl rfl ?_
      replace h := g_ob h; obtain ⟨x13, e_x13, h⟩ := h
      refine r_getJ C f_A_49 d_A_valueNow_22 e_x13 ?_
      cases h
      exact r_lret C hr d_A_valueNow_25
theorem c_A_valueNow (l : Launch) (E : gE) (base bA : Nat) (h0 : Nat) (p1 : Int32) (L : gL) (V : gV) {z : Int64 × gV} (h : D_A_valueNow h0 p1 L V = some z) : g_Met l E base bA y_A_valueNow b_A_valueNow 4 (some .long) rm_A_valueNow [tR (some h0), tI p1] L V (some (tJ z.1)) L z.2 :=
  r_enter R_A (by decide) rfl [tR (some h0), tI p1] [(0, tR (some h0)), (1, tI p1)] rfl (Nat.le_of_ble_eq_true rfl) (fun p e s m args below meth c C hr hnm => t_A_valueNow_0 C hr h0 p1 V h)
def rm_A_marksItsReader : Room := { frames := 3, cells := 0, slots := 0, locals := 65 }
def D_A_marksItsReader (h0 : Nat) (p1 : Int32) (p2 : Nat) (p3 : Int32) (L : gL) (V : gV) : Option (Int32 × gV) :=
  g_b2 (D_A_isFileCode p1 L V) fun r1 V2 =>
    (if r1 = 0 then
    Option.bind ((L).2 3 h0) fun n8 =>
    g_b2 (D_A_stepOfCode h0 p1 L V2) fun r3 V4 =>
    (g_on r3
    (some ((0 : Int32), V4))
    (fun a5 =>
    Option.bind (g_rI L V4 2 a5 8) fun x6 =>
    (if x6 = 0 then
    some ((0 : Int32), V4)
  else
    some ((1 : Int32), V4))))
  else
    Option.bind ((L).2 3 h0) fun n18 =>
    g_b2 (D_A_isThereNow h0 p1 L V2) fun r9 V10 =>
    Option.bind ((L).2 3 h0) fun n17 =>
    g_b2 (D_A_valueNow h0 p1 L V10) fun r11 V12 =>
    Option.bind ((L).2 0 p2) fun n16 =>
    g_b2 (D_N_differsAt p2 p3 r9 r11 L V12) fun r13 V14 =>
    Option.bind (g_bz r13) fun _ =>
    some (r13, V14))
set_option maxHeartbeats 4000000 in
set_option maxRecDepth 100000 in
theorem t_A_marksItsReader_0 (C : gC E bA p s m args meth c b_A_marksItsReader R_A 5) (hr : meth.sig.returnType = (some .boolean)) {z : Int32 × gV} (h0 : Nat) (p1 : Int32) (p2 : Nat) (p3 : Int32) (V : gV) (h : D_A_marksItsReader h0 p1 p2 p3 L V = some z) : vW E base bA 5 p l e rm_A_marksItsReader s m args below meth c 0 0 (g_MQ E base bA below args s 0 0 L z.2 (some (tI z.1))) L V 0 [(0, tR (some h0)), (1, tI p1), (2, tR (some p2)), (3, tI p3)] [] := by
  unfold D_A_marksItsReader at h
  refine r_iload_n (x := p1) C d_A_marksItsReader_0 rfl rfl ?_
  replace h := g_o2 h; obtain ⟨r1, V2, e_r1, h⟩ := h
  refine r_callS (As := [tI p1]) C k_A_152 w_135 w_129 (c_A_isFileCode l E base bA p1 L V e_r1) d_A_marksItsReader_1 rfl ⟨Nat.le_of_ble_eq_true rfl, Nat.le_of_ble_eq_true rfl⟩ (Nat.le_of_ble_eq_true rfl) (Nat.le_of_ble_eq_true rfl) (Nat.le_of_ble_eq_true rfl) rfl ?_
  refine r_if_eq C 23 d_A_marksItsReader_4 (by decide) (fun c19 => ?_) (fun c19 => ?_)
  · rw [if_pos c19] at h
    refine r_aload_n (x := (some h0)) C d_A_marksItsReader_23 rfl rfl ?_
    refine r_iload_n (x := p1) C d_A_marksItsReader_24 rfl rfl ?_
    replace h := g_ob h; obtain ⟨n8, e_n8, h⟩ := h
    replace h := g_o2 h; obtain ⟨r3, V4, e_r3, h⟩ := h
    refine r_callV (As := [tI p1]) C k_A_155 w_133 w_134 w_131 ⟨_, _, rfl⟩ (c_A_stepOfCode l E base bA h0 p1 L V2 e_r3) d_A_marksItsReader_25 e_n8 rfl ⟨Nat.le_of_ble_eq_true rfl, Nat.le_of_ble_eq_true rfl⟩ (Nat.le_of_ble_eq_true rfl) (Nat.le_of_ble_eq_true rfl) (Nat.le_of_ble_eq_true rfl) rfl ?_
    refine r_astore (lv' := [(4, tR r3), (0, tR (some h0)), (1, tI p1), (2, tR (some p2)), (3, tI p3)]) C d_A_marksItsReader_28 (by decide) rfl ?_
    refine r_aload (x := r3) C d_A_marksItsReader_30 rfl ?_
    replace h := g_oon h; rcases h with ⟨rfl, h⟩ | ⟨a5, rfl, h⟩
    · refine r_ifnull_t C 47 d_A_marksItsReader_32 (by decide) ?_
      refine r_iconst C (0 : Int32) d_A_marksItsReader_47 (by decide) ?_
      cases h
      exact r_zret C hr d_A_marksItsReader_48 (Or.inl rfl)
    · refine r_ifnull_f C d_A_marksItsReader_32 ?_
      refine r_aload (x := (some a5)) C d_A_marksItsReader_35 rfl ?_
      replace h := g_ob h; obtain ⟨x6, e_x6, h⟩ := h
      refine r_getI C f_A_162 d_A_marksItsReader_37 e_x6 ?_
      refine r_if_eq C 47 d_A_marksItsReader_40 (by decide) (fun c7 => ?_) (fun c7 => ?_)
      · rw [if_pos c7] at h
        refine r_iconst C (0 : Int32) d_A_marksItsReader_47 (by decide) ?_
        cases h
        exact r_zret C hr d_A_marksItsReader_48 (Or.inl rfl)
      · rw [if_neg c7] at h
        refine r_iconst C (1 : Int32) d_A_marksItsReader_43 (by decide) ?_
        refine r_goto C 48 d_A_marksItsReader_44 (by decide) ?_
        cases h
        exact r_zret C hr d_A_marksItsReader_48 (Or.inr rfl)
  · rw [if_neg c19] at h
    refine r_aload_n (x := (some p2)) C d_A_marksItsReader_7 rfl rfl ?_
    refine r_iload_n (x := p3) C d_A_marksItsReader_8 rfl rfl ?_
    refine r_aload_n (x := (some h0)) C d_A_marksItsReader_9 rfl rfl ?_
    refine r_iload_n (x := p1) C d_A_marksItsReader_10 rfl rfl ?_
    replace h := g_ob h; obtain ⟨n18, e_n18, h⟩ := h
    replace h := g_o2 h; obtain ⟨r9, V10, e_r9, h⟩ := h
    refine r_callV (As := [tI p1]) C k_A_175 w_165 w_166 w_151 ⟨_, _, rfl⟩ (c_A_isThereNow l E base bA h0 p1 L V2 e_r9) d_A_marksItsReader_11 e_n18 rfl ⟨Nat.le_of_ble_eq_true rfl, Nat.le_of_ble_eq_true rfl⟩ (Nat.le_of_ble_eq_true rfl) (Nat.le_of_ble_eq_true rfl) (Nat.le_of_ble_eq_true rfl) rfl ?_
    refine r_aload_n (x := (some h0)) C d_A_marksItsReader_14 rfl rfl ?_
    refine r_iload_n (x := p1) C d_A_marksItsReader_15 rfl rfl ?_
    replace h := g_ob h; obtain ⟨n17, e_n17, h⟩ := h
    replace h := g_o2 h; obtain ⟨r11, V12, e_r11, h⟩ := h
    refine r_callV (As := [tI p1]) C k_A_178 w_163 w_164 w_160 ⟨_, _, rfl⟩ (c_A_valueNow l E base bA h0 p1 L V10 e_r11) d_A_marksItsReader_16 e_n17 rfl ⟨Nat.le_of_ble_eq_true rfl, Nat.le_of_ble_eq_true rfl⟩ (Nat.le_of_ble_eq_true rfl) (Nat.le_of_ble_eq_true rfl) (Nat.le_of_ble_eq_true rfl) rfl ?_
    replace h := g_ob h; obtain ⟨n16, e_n16, h⟩ := h
    replace h := g_o2 h; obtain ⟨r13, V14, e_r13, h⟩ := h
    refine r_callV (As := [tI p3, tI r9, tJ r11]) C k_A_181 w_13 w_14 w_10 ⟨_, _, rfl⟩ (c_N_differsAt l E base bA p2 p3 r9 r11 L V12 e_r13) d_A_marksItsReader_19 e_n16 rfl ⟨Nat.le_of_ble_eq_true rfl, Nat.le_of_ble_eq_true rfl⟩ (Nat.le_of_ble_eq_true rfl) (Nat.le_of_ble_eq_true rfl) (Nat.le_of_ble_eq_true rfl) rfl ?_
    replace h := g_ob h; obtain ⟨u15, e_u15, h⟩ := h
    cases h
    exact r_zret C hr d_A_marksItsReader_22 (g_bz_spec e_u15)
theorem c_A_marksItsReader (l : Launch) (E : gE) (base bA : Nat) (h0 : Nat) (p1 : Int32) (p2 : Nat) (p3 : Int32) (L : gL) (V : gV) {z : Int32 × gV} (h : D_A_marksItsReader h0 p1 p2 p3 L V = some z) : g_Met l E base bA y_A_marksItsReader b_A_marksItsReader 5 (some .boolean) rm_A_marksItsReader [tR (some h0), tI p1, tR (some p2), tI p3] L V (some (tI z.1)) L z.2 :=
  r_enter R_A (by decide) rfl [tR (some h0), tI p1, tR (some p2), tI p3] [(0, tR (some h0)), (1, tI p1), (2, tR (some p2)), (3, tI p3)] rfl (Nat.le_of_ble_eq_true rfl) (fun p e s m args below meth c C hr hnm => t_A_marksItsReader_0 C hr h0 p1 p2 p3 V h)
def rm_A_isMarked : Room := { frames := 4, cells := 0, slots := 0, locals := 89 }
def D_A_isMarked_21 (L : gL) : Nat → Nat → Nat → Nat → Int32 → gV → Option (Int32 × gV)
  | 0, _, _, _, _, _ => none
  | n + 1, v0, v1, v2, v3, V =>
  Option.bind (g_rI L V 2 v1 3) fun x1 =>
    (if x1 ≤ v3 then
    some ((0 : Int32), V)
  else
    Option.bind (g_rR L V 2 v1 2) fun x2 =>
    Option.bind x2 fun a3 =>
    Option.bind (g_aI L V 100 a3 v3) fun x4 =>
    Option.bind ((L).2 3 v0) fun n8 =>
    g_b2 (D_A_marksItsReader v0 x4 v2 v3 L V) fun r5 V6 =>
    (if r5 = 0 then
    D_A_isMarked_21 L  n v0 v1 v2 (v3 + (1 : Int32)) V6
  else
    some ((1 : Int32), V6)))
def D_A_isMarked (h0 : Nat) (p1 : Nat) (L : gL) (V : gV) : Option (Int32 × gV) :=
  Option.bind ((L).2 2 p1) fun n6 =>
    g_b2 (D_T_entryAt p1 (0 : Int32) L V) fun r1 V2 =>
    (g_on r1
    (some ((1 : Int32), V2))
    (fun a3 =>
    Option.bind (g_rI L V2 2 p1 6) fun x4 =>
    (if x4 = 0 then
    D_A_isMarked_21 L  1000 h0 p1 a3 (0 : Int32) V2
  else
    some ((1 : Int32), V2))))
set_option maxHeartbeats 4000000 in
set_option maxRecDepth 100000 in
theorem t_A_isMarked_21 (C : gC E bA p s m args meth c b_A_isMarked R_A 4) (hr : meth.sig.returnType = (some .boolean)) {z : Int32 × gV} : ∀ (n : Nat) (v0 : Nat) (v1 : Nat) (v2 : Nat) (v3 : Int32) (V : gV), D_A_isMarked_21 L  n v0 v1 v2 v3 V = some z → vW E base bA 4 p l e rm_A_isMarked s m args below meth c 0 0 (g_MQ E base bA below args s 0 0 L z.2 (some (tI z.1))) L V 21 [(0, tR (some v0)), (1, tR (some v1)), (2, tR (some v2)), (3, tI v3)] [] := by
  intro n
  induction n with
  | zero =>
    intro v0 v1 v2 v3 V h
    rw [D_A_isMarked_21] at h
    cases h
  | succ n ih =>
    intro v0 v1 v2 v3 V h
    rw [D_A_isMarked_21] at h
    refine r_iload_n (x := v3) C d_A_isMarked_21 rfl rfl ?_
    refine r_aload_n (x := (some v1)) C d_A_isMarked_22 rfl rfl ?_
    replace h := g_ob h; obtain ⟨x1, e_x1, h⟩ := h
    refine r_getI C f_A_130 d_A_isMarked_23 e_x1 ?_
    refine r_icmp_ge C 52 d_A_isMarked_26 (by decide) (fun c9 => ?_) (fun c9 => ?_)
    · rw [if_pos c9] at h
      refine r_iconst C (0 : Int32) d_A_isMarked_52 (by decide) ?_
      cases h
      exact r_zret C hr d_A_isMarked_53 (Or.inl rfl)
    · rw [if_neg c9] at h
      refine r_aload_n (x := (some v0)) C d_A_isMarked_29 rfl rfl ?_
      refine r_aload_n (x := (some v1)) C d_A_isMarked_30 rfl rfl ?_
      replace h := g_ob h; obtain ⟨x2, e_x2, h⟩ := h
      refine r_getR C f_A_149 d_A_isMarked_31 e_x2 ?_
      refine r_iload_n (x := v3) C d_A_isMarked_34 rfl rfl ?_
      replace h := g_ob h; obtain ⟨a3, rfl, h⟩ := h
      replace h := g_ob h; obtain ⟨x4, e_x4, h⟩ := h
      refine r_iald C ak_100 d_A_isMarked_35 e_x4 ?_
      refine r_aload_n (x := (some v2)) C d_A_isMarked_36 rfl rfl ?_
      refine r_iload_n (x := v3) C d_A_isMarked_37 rfl rfl ?_
      replace h := g_ob h; obtain ⟨n8, e_n8, h⟩ := h
      replace h := g_o2 h; obtain ⟨r5, V6, e_r5, h⟩ := h
      refine r_callV (As := [tI x4, tR (some v2), tI v3]) C k_A_171 w_169 w_170 w_167 ⟨_, _, rfl⟩ (c_A_marksItsReader l E base bA v0 x4 v2 v3 L V e_r5) d_A_isMarked_38 e_n8 rfl ⟨Nat.le_of_ble_eq_true rfl, Nat.le_of_ble_eq_true rfl⟩ (Nat.le_of_ble_eq_true rfl) (Nat.le_of_ble_eq_true rfl) (Nat.le_of_ble_eq_true rfl) rfl ?_
      refine r_if_eq C 46 d_A_isMarked_41 (by decide) (fun c7 => ?_) (fun c7 => ?_)
      · rw [if_pos c7] at h
        refine r_iinc (x := v3) (v := v3 + (1 : Int32)) (lv' := [(3, tI (v3 + (1 : Int32))), (0, tR (some v0)), (1, tR (some v1)), (2, tR (some v2))]) C d_A_isMarked_46 rfl rfl (by decide) rfl ?_
        refine r_goto C 21 d_A_isMarked_49 (by decide) ?_
        refine r_lv [1, 2, 3, 0] rfl ?_
        exact ih v0 v1 v2 (v3 + (1 : Int32)) V6 h
      · rw [if_neg c7] at h
        refine r_iconst C (1 : Int32) d_A_isMarked_44 (by decide) ?_
        cases h
        exact r_zret C hr d_A_isMarked_45 (Or.inr rfl)
set_option maxHeartbeats 4000000 in
set_option maxRecDepth 100000 in
theorem t_A_isMarked_0 (C : gC E bA p s m args meth c b_A_isMarked R_A 4) (hr : meth.sig.returnType = (some .boolean)) {z : Int32 × gV} (h0 : Nat) (p1 : Nat) (V : gV) (h : D_A_isMarked h0 p1 L V = some z) : vW E base bA 4 p l e rm_A_isMarked s m args below meth c 0 0 (g_MQ E base bA below args s 0 0 L z.2 (some (tI z.1))) L V 0 [(0, tR (some h0)), (1, tR (some p1))] [] := by
  unfold D_A_isMarked at h
  refine r_aload_n (x := (some p1)) C d_A_isMarked_0 rfl rfl ?_
  refine r_iconst C (0 : Int32) d_A_isMarked_1 (by decide) ?_
  replace h := g_ob h; obtain ⟨n6, e_n6, h⟩ := h
  replace h := g_o2 h; obtain ⟨r1, V2, e_r1, h⟩ := h
  refine r_callV (As := [tI (0 : Int32)]) C k_A_108 w_148 w_149 w_146 ⟨_, _, rfl⟩ (c_T_entryAt l E base bA p1 (0 : Int32) L V e_r1) d_A_isMarked_2 e_n6 rfl ⟨Nat.le_of_ble_eq_true rfl, Nat.le_of_ble_eq_true rfl⟩ (Nat.le_of_ble_eq_true rfl) (Nat.le_of_ble_eq_true rfl) (Nat.le_of_ble_eq_true rfl) rfl ?_
  refine r_astore_n (lv' := [(2, tR r1), (0, tR (some h0)), (1, tR (some p1))]) C d_A_isMarked_5 rfl (by decide) rfl ?_
  refine r_aload_n (x := r1) C d_A_isMarked_6 rfl rfl ?_
  replace h := g_oon h; rcases h with ⟨rfl, h⟩ | ⟨a3, rfl, h⟩
  · refine r_ifnull_t C 17 d_A_isMarked_7 (by decide) ?_
    refine r_iconst C (1 : Int32) d_A_isMarked_17 (by decide) ?_
    cases h
    exact r_zret C hr d_A_isMarked_18 (Or.inr rfl)
  · refine r_ifnull_f C d_A_isMarked_7 ?_
    refine r_aload_n (x := (some p1)) C d_A_isMarked_10 rfl rfl ?_
    replace h := g_ob h; obtain ⟨x4, e_x4, h⟩ := h
    refine r_getI C f_A_78 d_A_isMarked_11 e_x4 ?_
    refine r_if_eq C 19 d_A_isMarked_14 (by decide) (fun c5 => ?_) (fun c5 => ?_)
    · rw [if_pos c5] at h
      refine r_iconst C (0 : Int32) d_A_isMarked_19 (by decide) ?_
      refine r_istore_n (lv' := [(3, tI (0 : Int32)), (2, tR (some a3)), (0, tR (some h0)), (1, tR (some p1))]) C d_A_isMarked_20 rfl (by decide) rfl ?_
      refine r_lv [2, 3, 1, 0] rfl ?_
      exact t_A_isMarked_21 C hr  1000 h0 p1 a3 (0 : Int32) V2 h
    · rw [if_neg c5] at h
      refine r_iconst C (1 : Int32) d_A_isMarked_17 (by decide) ?_
      cases h
      exact r_zret C hr d_A_isMarked_18 (Or.inr rfl)
theorem c_A_isMarked (l : Launch) (E : gE) (base bA : Nat) (h0 : Nat) (p1 : Nat) (L : gL) (V : gV) {z : Int32 × gV} (h : D_A_isMarked h0 p1 L V = some z) : g_Met l E base bA y_A_isMarked b_A_isMarked 4 (some .boolean) rm_A_isMarked [tR (some h0), tR (some p1)] L V (some (tI z.1)) L z.2 :=
  r_enter R_A (by decide) rfl [tR (some h0), tR (some p1)] [(0, tR (some h0)), (1, tR (some p1))] rfl (Nat.le_of_ble_eq_true rfl) (fun p e s m args below meth c C hr hnm => t_A_isMarked_0 C hr h0 p1 V h)
def rm_A_isBlocked : Room := { frames := 2, cells := 0, slots := 0, locals := 42 }
def D_A_isBlocked_2 (L : gL) : Nat → Nat → Nat → Int32 → gV → Option (Int32 × gV)
  | 0, _, _, _, _ => none
  | n + 1, v0, v1, v2, V =>
  Option.bind (g_rI L V 2 v1 3) fun x1 =>
    (if x1 ≤ v2 then
    some ((0 : Int32), V)
  else
    Option.bind (g_rR L V 2 v1 2) fun x2 =>
    Option.bind x2 fun a3 =>
    Option.bind (g_aI L V 100 a3 v2) fun x4 =>
    g_b2 (D_A_isFileCode x4 L V) fun r5 V6 =>
    (if r5 = 0 then
    Option.bind (g_rR L V6 2 v1 2) fun x7 =>
    Option.bind x7 fun a8 =>
    Option.bind (g_aI L V6 100 a8 v2) fun x9 =>
    Option.bind ((L).2 3 v0) fun n17 =>
    g_b2 (D_A_stepOfCode v0 x9 L V6) fun r10 V11 =>
    (g_on r10
    (D_A_isBlocked_2 L  n v0 v1 (v2 + (1 : Int32)) V11)
    (fun a12 =>
    Option.bind ((L).2 2 a12) fun n16 =>
    g_b2 (D_T_isWithoutOutput a12 L V11) fun r13 V14 =>
    (if r13 = 0 then
    D_A_isBlocked_2 L  n v0 v1 (v2 + (1 : Int32)) V14
  else
    some ((1 : Int32), V14))))
  else
    D_A_isBlocked_2 L  n v0 v1 (v2 + (1 : Int32)) V6))
def D_A_isBlocked (h0 : Nat) (p1 : Nat) (L : gL) (V : gV) : Option (Int32 × gV) :=
  D_A_isBlocked_2 L  1000 h0 p1 (0 : Int32) V
set_option maxHeartbeats 4000000 in
set_option maxRecDepth 100000 in
theorem t_A_isBlocked_2 (C : gC E bA p s m args meth c b_A_isBlocked R_A 4) (hr : meth.sig.returnType = (some .boolean)) {z : Int32 × gV} : ∀ (n : Nat) (v0 : Nat) (v1 : Nat) (v2 : Int32) (V : gV), D_A_isBlocked_2 L  n v0 v1 v2 V = some z → vW E base bA 4 p l e rm_A_isBlocked s m args below meth c 0 0 (g_MQ E base bA below args s 0 0 L z.2 (some (tI z.1))) L V 2 [(0, tR (some v0)), (1, tR (some v1)), (2, tI v2)] [] := by
  intro n
  induction n with
  | zero =>
    intro v0 v1 v2 V h
    rw [D_A_isBlocked_2] at h
    cases h
  | succ n ih =>
    intro v0 v1 v2 V h
    rw [D_A_isBlocked_2] at h
    refine r_iload_n (x := v2) C d_A_isBlocked_2 rfl rfl ?_
    refine r_aload_n (x := (some v1)) C d_A_isBlocked_3 rfl rfl ?_
    replace h := g_ob h; obtain ⟨x1, e_x1, h⟩ := h
    refine r_getI C f_A_130 d_A_isBlocked_4 e_x1 ?_
    refine r_icmp_ge C 52 d_A_isBlocked_7 (by decide) (fun c19 => ?_) (fun c19 => ?_)
    · rw [if_pos c19] at h
      refine r_iconst C (0 : Int32) d_A_isBlocked_52 (by decide) ?_
      cases h
      exact r_zret C hr d_A_isBlocked_53 (Or.inl rfl)
    · rw [if_neg c19] at h
      refine r_aload_n (x := (some v1)) C d_A_isBlocked_10 rfl rfl ?_
      replace h := g_ob h; obtain ⟨x2, e_x2, h⟩ := h
      refine r_getR C f_A_149 d_A_isBlocked_11 e_x2 ?_
      refine r_iload_n (x := v2) C d_A_isBlocked_14 rfl rfl ?_
      replace h := g_ob h; obtain ⟨a3, rfl, h⟩ := h
      replace h := g_ob h; obtain ⟨x4, e_x4, h⟩ := h
      refine r_iald C ak_100 d_A_isBlocked_15 e_x4 ?_
      replace h := g_o2 h; obtain ⟨r5, V6, e_r5, h⟩ := h
      refine r_callS (As := [tI x4]) C k_A_152 w_135 w_129 (c_A_isFileCode l E base bA x4 L V e_r5) d_A_isBlocked_16 rfl ⟨Nat.le_of_ble_eq_true rfl, Nat.le_of_ble_eq_true rfl⟩ (Nat.le_of_ble_eq_true rfl) (Nat.le_of_ble_eq_true rfl) (Nat.le_of_ble_eq_true rfl) rfl ?_
      refine r_if_ne C 46 d_A_isBlocked_19 (by decide) (fun c18 => ?_) (fun c18 => ?_)
      · rw [if_neg c18] at h
        refine r_iinc (x := v2) (v := v2 + (1 : Int32)) (lv' := [(2, tI (v2 + (1 : Int32))), (0, tR (some v0)), (1, tR (some v1))]) C d_A_isBlocked_46 rfl rfl (by decide) rfl ?_
        refine r_goto C 2 d_A_isBlocked_49 (by decide) ?_
        refine r_lv [1, 2, 0] rfl ?_
        exact ih v0 v1 (v2 + (1 : Int32)) V6 h
      · rw [if_pos c18] at h
        refine r_aload_n (x := (some v0)) C d_A_isBlocked_22 rfl rfl ?_
        refine r_aload_n (x := (some v1)) C d_A_isBlocked_23 rfl rfl ?_
        replace h := g_ob h; obtain ⟨x7, e_x7, h⟩ := h
        refine r_getR C f_A_149 d_A_isBlocked_24 e_x7 ?_
        refine r_iload_n (x := v2) C d_A_isBlocked_27 rfl rfl ?_
        replace h := g_ob h; obtain ⟨a8, rfl, h⟩ := h
        replace h := g_ob h; obtain ⟨x9, e_x9, h⟩ := h
        refine r_iald C ak_100 d_A_isBlocked_28 e_x9 ?_
        replace h := g_ob h; obtain ⟨n17, e_n17, h⟩ := h
        replace h := g_o2 h; obtain ⟨r10, V11, e_r10, h⟩ := h
        refine r_callV (As := [tI x9]) C k_A_155 w_133 w_134 w_131 ⟨_, _, rfl⟩ (c_A_stepOfCode l E base bA v0 x9 L V6 e_r10) d_A_isBlocked_29 e_n17 rfl ⟨Nat.le_of_ble_eq_true rfl, Nat.le_of_ble_eq_true rfl⟩ (Nat.le_of_ble_eq_true rfl) (Nat.le_of_ble_eq_true rfl) (Nat.le_of_ble_eq_true rfl) rfl ?_
        refine r_astore_n (lv' := [(3, tR r10), (0, tR (some v0)), (1, tR (some v1)), (2, tI v2)]) C d_A_isBlocked_32 rfl (by decide) rfl ?_
        refine r_aload_n (x := r10) C d_A_isBlocked_33 rfl rfl ?_
        replace h := g_oon h; rcases h with ⟨rfl, h⟩ | ⟨a12, rfl, h⟩
        · refine r_ifnull_t C 46 d_A_isBlocked_34 (by decide) ?_
          refine r_iinc (x := v2) (v := v2 + (1 : Int32)) (lv' := [(2, tI (v2 + (1 : Int32))), (3, tR none), (0, tR (some v0)), (1, tR (some v1))]) C d_A_isBlocked_46 rfl rfl (by decide) rfl ?_
          refine r_goto C 2 d_A_isBlocked_49 (by decide) ?_
          refine r_lv [2, 3, 0] rfl ?_
          exact ih v0 v1 (v2 + (1 : Int32)) V11 h
        · refine r_ifnull_f C d_A_isBlocked_34 ?_
          refine r_aload_n (x := (some a12)) C d_A_isBlocked_37 rfl rfl ?_
          replace h := g_ob h; obtain ⟨n16, e_n16, h⟩ := h
          replace h := g_o2 h; obtain ⟨r13, V14, e_r13, h⟩ := h
          refine r_callV (As := []) C k_A_185 w_177 w_178 w_175 ⟨_, _, rfl⟩ (c_T_isWithoutOutput l E base bA a12 L V11 e_r13) d_A_isBlocked_38 e_n16 rfl ⟨Nat.le_of_ble_eq_true rfl, Nat.le_of_ble_eq_true rfl⟩ (Nat.le_of_ble_eq_true rfl) (Nat.le_of_ble_eq_true rfl) (Nat.le_of_ble_eq_true rfl) rfl ?_
          refine r_if_eq C 46 d_A_isBlocked_41 (by decide) (fun c15 => ?_) (fun c15 => ?_)
          · rw [if_pos c15] at h
            refine r_iinc (x := v2) (v := v2 + (1 : Int32)) (lv' := [(2, tI (v2 + (1 : Int32))), (3, tR (some a12)), (0, tR (some v0)), (1, tR (some v1))]) C d_A_isBlocked_46 rfl rfl (by decide) rfl ?_
            refine r_goto C 2 d_A_isBlocked_49 (by decide) ?_
            refine r_lv [2, 3, 0] rfl ?_
            exact ih v0 v1 (v2 + (1 : Int32)) V14 h
          · rw [if_neg c15] at h
            refine r_iconst C (1 : Int32) d_A_isBlocked_44 (by decide) ?_
            cases h
            exact r_zret C hr d_A_isBlocked_45 (Or.inr rfl)
set_option maxHeartbeats 4000000 in
set_option maxRecDepth 100000 in
theorem t_A_isBlocked_0 (C : gC E bA p s m args meth c b_A_isBlocked R_A 4) (hr : meth.sig.returnType = (some .boolean)) {z : Int32 × gV} (h0 : Nat) (p1 : Nat) (V : gV) (h : D_A_isBlocked h0 p1 L V = some z) : vW E base bA 4 p l e rm_A_isBlocked s m args below meth c 0 0 (g_MQ E base bA below args s 0 0 L z.2 (some (tI z.1))) L V 0 [(0, tR (some h0)), (1, tR (some p1))] [] := by
  unfold D_A_isBlocked at h
  refine r_iconst C (0 : Int32) d_A_isBlocked_0 (by decide) ?_
  refine r_istore_n (lv' := [(2, tI (0 : Int32)), (0, tR (some h0)), (1, tR (some p1))]) C d_A_isBlocked_1 rfl (by decide) rfl ?_
  refine r_lv [1, 2, 0] rfl ?_
  exact t_A_isBlocked_2 C hr  1000 h0 p1 (0 : Int32) V h
theorem c_A_isBlocked (l : Launch) (E : gE) (base bA : Nat) (h0 : Nat) (p1 : Nat) (L : gL) (V : gV) {z : Int32 × gV} (h : D_A_isBlocked h0 p1 L V = some z) : g_Met l E base bA y_A_isBlocked b_A_isBlocked 4 (some .boolean) rm_A_isBlocked [tR (some h0), tR (some p1)] L V (some (tI z.1)) L z.2 :=
  r_enter R_A (by decide) rfl [tR (some h0), tR (some p1)] [(0, tR (some h0)), (1, tR (some p1))] rfl (Nat.le_of_ble_eq_true rfl) (fun p e s m args below meth c C hr hnm => t_A_isBlocked_0 C hr h0 p1 V h)
def rm_A_readNow : Room := { frames := 3, cells := 0, slots := 0, locals := 65 }
def D_A_readNow_7 (L : gL) : Nat → Nat → Nat → Option Nat → Int32 → gV → Option (Option Nat × gV)
  | 0, _, _, _, _, _ => none
  | n + 1, v0, v1, v2, v3, V =>
  Option.bind (g_rI L V 2 v1 3) fun x1 =>
    (if x1 ≤ v3 then
    some (v2, V)
  else
    Option.bind v2 fun a2 =>
    Option.bind (g_rR L V 0 a2 0) fun x3 =>
    Option.bind (g_rR L V 2 v1 2) fun x4 =>
    Option.bind x4 fun a5 =>
    Option.bind (g_aI L V 100 a5 v3) fun x6 =>
    Option.bind ((L).2 3 v0) fun n21 =>
    g_b2 (D_A_isThereNow v0 x6 L V) fun r7 V8 =>
    Option.bind x3 fun a9 =>
    Option.bind (g_bz r7) fun _ =>
    Option.bind (g_wa L V8 102 a9 v3 (tI r7)) fun V10 =>
    Option.bind (g_rR L V10 0 a2 1) fun x11 =>
    Option.bind (g_rR L V10 2 v1 2) fun x12 =>
    Option.bind x12 fun a13 =>
    Option.bind (g_aI L V10 100 a13 v3) fun x14 =>
    Option.bind ((L).2 3 v0) fun n19 =>
    g_b2 (D_A_valueNow v0 x14 L V10) fun r15 V16 =>
    Option.bind x11 fun a17 =>
    Option.bind (g_wa L V16 101 a17 v3 (tJ r15)) fun V18 =>
    D_A_readNow_7 L  n v0 v1 (some a2) (v3 + (1 : Int32)) V18)
def D_A_readNow (h0 : Nat) (p1 : Nat) (L : gL) (V : gV) : Option (Option Nat × gV) :=
  Option.bind ((L).2 2 p1) fun n3 =>
    g_b2 (D_T_spareEntry p1 L V) fun r1 V2 =>
    D_A_readNow_7 L  1000 h0 p1 r1 (0 : Int32) V2
set_option maxHeartbeats 4000000 in
set_option maxRecDepth 100000 in
theorem t_A_readNow_7 (C : gC E base p s m args meth c b_A_readNow R_A 4) (hr : meth.sig.returnType = (some (.object "EarlyCut$Entry"))) {z : Option Nat × gV} : ∀ (n : Nat) (v0 : Nat) (v1 : Nat) (v2 : Option Nat) (v3 : Int32) (V : gV), D_A_readNow_7 L  n v0 v1 v2 v3 V = some z → vW E base base 4 p l e rm_A_readNow s m args below meth c 0 0 (g_MQ E base base below args s 0 0 L z.2 (some (tR z.1))) L V 7 [(0, tR (some v0)), (1, tR (some v1)), (2, tR v2), (3, tI v3)] [] := by
  intro n
  induction n with
  | zero =>
    intro v0 v1 v2 v3 V h
    rw [D_A_readNow_7] at h
    cases h
  | succ n ih =>
    intro v0 v1 v2 v3 V h
    rw [D_A_readNow_7] at h
    refine r_iload_n (x := v3) C d_A_readNow_7 rfl rfl ?_
    refine r_aload_n (x := (some v1)) C d_A_readNow_8 rfl rfl ?_
    replace h := g_ob h; obtain ⟨x1, e_x1, h⟩ := h
    refine r_getI C f_A_130 d_A_readNow_9 e_x1 ?_
    refine r_icmp_ge C 53 d_A_readNow_12 (by decide) (fun c22 => ?_) (fun c22 => ?_)
    · rw [if_pos c22] at h
      refine r_aload_n (x := v2) C d_A_readNow_53 rfl rfl ?_
      cases h
      exact r_aret C hr d_A_readNow_54
    · rw [if_neg c22] at h
      refine r_aload_n (x := v2) C d_A_readNow_15 rfl rfl ?_
      replace h := g_ob h; obtain ⟨a2, rfl, h⟩ := h
      replace h := g_ob h; obtain ⟨x3, e_x3, h⟩ := h
      refine r_getR C f_A_214 d_A_readNow_16 e_x3 ?_
      refine r_iload_n (x := v3) C d_A_readNow_19 rfl rfl ?_
      refine r_aload_n (x := (some v0)) C d_A_readNow_20 rfl rfl ?_
      refine r_aload_n (x := (some v1)) C d_A_readNow_21 rfl rfl ?_
      replace h := g_ob h; obtain ⟨x4, e_x4, h⟩ := h
      refine r_getR C f_A_149 d_A_readNow_22 e_x4 ?_
      refine r_iload_n (x := v3) C d_A_readNow_25 rfl rfl ?_
      replace h := g_ob h; obtain ⟨a5, rfl, h⟩ := h
      replace h := g_ob h; obtain ⟨x6, e_x6, h⟩ := h
      refine r_iald C ak_100 d_A_readNow_26 e_x6 ?_
      replace h := g_ob h; obtain ⟨n21, e_n21, h⟩ := h
      replace h := g_o2 h; obtain ⟨r7, V8, e_r7, h⟩ := h
      refine r_callV (As := [tI x6]) C k_A_175 w_165 w_166 w_151 ⟨_, _, rfl⟩ (c_A_isThereNow l E base base v0 x6 L V e_r7) d_A_readNow_27 e_n21 rfl ⟨Nat.le_of_ble_eq_true rfl, Nat.le_of_ble_eq_true rfl⟩ (Nat.le_of_ble_eq_true rfl) (Nat.le_of_ble_eq_true rfl) (Nat.le_of_ble_eq_true rfl) rfl ?_
      replace h := g_ob h; obtain ⟨a9, rfl, h⟩ := h
      replace h := g_ob h; obtain ⟨u20, e_u20, h⟩ := h
      replace h := g_ob h; obtain ⟨V10, e_V10, h⟩ := h
      refine r_zast C ak_102 d_A_readNow_30 (g_bz_spec e_u20) e_V10 ?_
      refine r_aload_n (x := (some a2)) C d_A_readNow_31 rfl rfl ?_
      replace h := g_ob h; obtain ⟨x11, e_x11, h⟩ := h
      refine r_getR C f_A_133 d_A_readNow_32 e_x11 ?_
      refine r_iload_n (x := v3) C d_A_readNow_35 rfl rfl ?_
      refine r_aload_n (x := (some v0)) C d_A_readNow_36 rfl rfl ?_
      refine r_aload_n (x := (some v1)) C d_A_readNow_37 rfl rfl ?_
      replace h := g_ob h; obtain ⟨x12, e_x12, h⟩ := h
      refine r_getR C f_A_149 d_A_readNow_38 e_x12 ?_
      refine r_iload_n (x := v3) C d_A_readNow_41 rfl rfl ?_
      replace h := g_ob h; obtain ⟨a13, rfl, h⟩ := h
      replace h := g_ob h; obtain ⟨x14, e_x14, h⟩ := h
      refine r_iald C ak_100 d_A_readNow_42 e_x14 ?_
      replace h := g_ob h; obtain ⟨n19, e_n19, h⟩ := h
      replace h := g_o2 h; obtain ⟨r15, V16, e_r15, h⟩ := h
      refine r_callV (As := [tI x14]) C k_A_178 w_163 w_164 w_160 ⟨_, _, rfl⟩ (c_A_valueNow l E base base v0 x14 L V10 e_r15) d_A_readNow_43 e_n19 rfl ⟨Nat.le_of_ble_eq_true rfl, Nat.le_of_ble_eq_true rfl⟩ (Nat.le_of_ble_eq_true rfl) (Nat.le_of_ble_eq_true rfl) (Nat.le_of_ble_eq_true rfl) rfl ?_
      replace h := g_ob h; obtain ⟨a17, rfl, h⟩ := h
      replace h := g_ob h; obtain ⟨V18, e_V18, h⟩ := h
      refine r_last C ak_101 d_A_readNow_46 e_V18 ?_
      refine r_iinc (x := v3) (v := v3 + (1 : Int32)) (lv' := [(3, tI (v3 + (1 : Int32))), (0, tR (some v0)), (1, tR (some v1)), (2, tR (some a2))]) C d_A_readNow_47 rfl rfl (by decide) rfl ?_
      refine r_goto C 7 d_A_readNow_50 (by decide) ?_
      refine r_lv [1, 2, 3, 0] rfl ?_
      exact ih v0 v1 (some a2) (v3 + (1 : Int32)) V18 h
set_option maxHeartbeats 4000000 in
set_option maxRecDepth 100000 in
theorem t_A_readNow_0 (C : gC E base p s m args meth c b_A_readNow R_A 4) (hr : meth.sig.returnType = (some (.object "EarlyCut$Entry"))) {z : Option Nat × gV} (h0 : Nat) (p1 : Nat) (V : gV) (h : D_A_readNow h0 p1 L V = some z) : vW E base base 4 p l e rm_A_readNow s m args below meth c 0 0 (g_MQ E base base below args s 0 0 L z.2 (some (tR z.1))) L V 0 [(0, tR (some h0)), (1, tR (some p1))] [] := by
  unfold D_A_readNow at h
  refine r_aload_n (x := (some p1)) C d_A_readNow_0 rfl rfl ?_
  replace h := g_ob h; obtain ⟨n3, e_n3, h⟩ := h
  replace h := g_o2 h; obtain ⟨r1, V2, e_r1, h⟩ := h
  refine r_callV (As := []) C k_A_210 w_73 w_74 w_53 ⟨_, _, rfl⟩ (c_T_spareEntry l E base base p1 L V e_r1) d_A_readNow_1 e_n3 rfl ⟨Nat.le_of_ble_eq_true rfl, Nat.le_of_ble_eq_true rfl⟩ (Nat.le_of_ble_eq_true rfl) (Nat.le_of_ble_eq_true rfl) (Nat.le_of_ble_eq_true rfl) rfl ?_
  refine r_astore_n (lv' := [(2, tR r1), (0, tR (some h0)), (1, tR (some p1))]) C d_A_readNow_4 rfl (by decide) rfl ?_
  refine r_iconst C (0 : Int32) d_A_readNow_5 (by decide) ?_
  refine r_istore_n (lv' := [(3, tI (0 : Int32)), (2, tR r1), (0, tR (some h0)), (1, tR (some p1))]) C d_A_readNow_6 rfl (by decide) rfl ?_
  refine r_lv [2, 3, 1, 0] rfl ?_
  exact t_A_readNow_7 C hr  1000 h0 p1 r1 (0 : Int32) V2 h
theorem c_A_readNow (l : Launch) (E : gE) (base : Nat) (h0 : Nat) (p1 : Nat) (L : gL) (V : gV) {z : Option Nat × gV} (h : D_A_readNow h0 p1 L V = some z) : g_Met l E base base y_A_readNow b_A_readNow 4 (some (.object "EarlyCut$Entry")) rm_A_readNow [tR (some h0), tR (some p1)] L V (some (tR z.1)) L z.2 :=
  r_enter R_A (by decide) rfl [tR (some h0), tR (some p1)] [(0, tR (some h0)), (1, tR (some p1))] rfl (Nat.le_of_ble_eq_true rfl) (fun p e s m args below meth c C hr hnm => t_A_readNow_0 C hr h0 p1 V h)
def rm_A_compareOutputs : Room := { frames := 1, cells := 0, slots := 0, locals := 21 }
def D_A_compareOutputs_22 (L : gL) (v0 : Nat) (v1 : Option Nat) (v2 : Nat) (s0 : Int32) (V : gV) : Option (Unit × gV) :=
  Option.bind ((L).2 2 v2) fun n28 =>
    g_b2 (D_T_entryAt v2 (0 : Int32) L V) fun r1 V2 =>
    (if s0 = 0 then
    some ((), V2)
  else
    (g_on v1
    (some ((), V2))
    (fun a3 =>
    Option.bind ((L).2 0 a3) fun n26 =>
    g_b2 (D_N_hasFailed a3 L V2) fun r4 V5 =>
    (if r4 = 0 then
    (g_on r1
    (some ((), V5))
    (fun a6 =>
    Option.bind (g_rJ L V5 0 a6 4) fun x7 =>
    Option.bind (g_rJ L V5 0 a3 4) fun x8 =>
    (if (lg_cmp x7 x8) = 0 then
    Option.bind (g_rR L V5 3 v0 4) fun x16 =>
    Option.bind x16 fun a17 =>
    Option.bind (g_aI L V5 100 a17 (1 : Int32)) fun x18 =>
    Option.bind (g_wa L V5 100 a17 (1 : Int32) (tI (x18 + (1 : Int32)))) fun V19 =>
    Option.bind (g_rI L V19 2 v2 9) fun x20 =>
    (if x20 = (2 : Int32) then
    Option.bind (g_rI L V19 3 v0 6) fun x21 =>
    Option.bind (g_wr L V19 3 v0 6 (tI (x21 + (1 : Int32)))) fun V22 =>
    some ((), V22)
  else
    some ((), V19))
  else
    Option.bind (g_rJ L V5 0 a6 3) fun x9 =>
    Option.bind (g_rJ L V5 0 a3 3) fun x10 =>
    (if (lg_cmp x9 x10) = 0 then
    Option.bind (g_rR L V5 3 v0 4) fun x11 =>
    Option.bind x11 fun a12 =>
    Option.bind (g_aI L V5 100 a12 (2 : Int32)) fun x13 =>
    Option.bind (g_wa L V5 100 a12 (2 : Int32) (tI (x13 + (1 : Int32)))) fun V14 =>
    some ((), V14)
  else
    some ((), V5)))))
  else
    some ((), V5)))))
def D_A_compareOutputs_17 (L : gL) (v0 : Nat) (v1 : Option Nat) (v2 : Nat) (V : gV) : Option (Unit × gV) :=
  D_A_compareOutputs_22 L  v0 v1 v2 (1 : Int32) V
def D_A_compareOutputs (h0 : Nat) (p1 : Option Nat) (p2 : Nat) (L : gL) (V : gV) : Option (Unit × gV) :=
  Option.bind (g_rI L V 2 p2 9) fun x1 =>
    (if x1 = (2 : Int32) then
    D_A_compareOutputs_17 L  h0 p1 p2 V
  else
    Option.bind (g_rI L V 2 p2 9) fun x2 =>
    (if x2 = (6 : Int32) then
    D_A_compareOutputs_17 L  h0 p1 p2 V
  else
    D_A_compareOutputs_22 L  h0 p1 p2 (0 : Int32) V))
set_option maxHeartbeats 4000000 in
set_option maxRecDepth 100000 in
theorem t_A_compareOutputs_22 (C : gC E base p s m args meth c b_A_compareOutputs R_A 5) (hr : meth.sig.returnType = none) {z : Unit × gV} (v0 : Nat) (v1 : Option Nat) (v2 : Nat) (s0 : Int32) (V : gV) (h : D_A_compareOutputs_22 L  v0 v1 v2 s0 V = some z) : vW E base base 5 p l e rm_A_compareOutputs s m args below meth c 0 0 (g_MQ E base base below args s 0 0 L z.2 none) L V 22 [(0, tR (some v0)), (1, tR v1), (2, tR (some v2))] [tI s0] := by
  unfold D_A_compareOutputs_22 at h
  refine r_istore_n (lv' := [(3, tI s0), (0, tR (some v0)), (1, tR v1), (2, tR (some v2))]) C d_A_compareOutputs_22 rfl (by decide) rfl ?_
  refine r_aload_n (x := (some v2)) C d_A_compareOutputs_23 rfl rfl ?_
  refine r_iconst C (0 : Int32) d_A_compareOutputs_24 (by decide) ?_
  replace h := g_ob h; obtain ⟨n28, e_n28, h⟩ := h
  replace h := g_o2 h; obtain ⟨r1, V2, e_r1, h⟩ := h
  refine r_callV (As := [tI (0 : Int32)]) C k_A_108 w_148 w_149 w_146 ⟨_, _, rfl⟩ (c_T_entryAt l E base base v2 (0 : Int32) L V e_r1) d_A_compareOutputs_25 e_n28 rfl ⟨Nat.le_of_ble_eq_true rfl, Nat.le_of_ble_eq_true rfl⟩ (Nat.le_of_ble_eq_true rfl) (Nat.le_of_ble_eq_true rfl) (Nat.le_of_ble_eq_true rfl) rfl ?_
  refine r_astore (lv' := [(4, tR r1), (3, tI s0), (0, tR (some v0)), (1, tR v1), (2, tR (some v2))]) C d_A_compareOutputs_28 (by decide) rfl ?_
  refine r_iload_n (x := s0) C d_A_compareOutputs_30 rfl rfl ?_
  refine r_if_eq C 50 d_A_compareOutputs_31 (by decide) (fun c27 => ?_) (fun c27 => ?_)
  · rw [if_pos c27] at h
    cases h
    exact r_vret C hr d_A_compareOutputs_50
  · rw [if_neg c27] at h
    refine r_aload_n (x := v1) C d_A_compareOutputs_34 rfl rfl ?_
    replace h := g_oon h; rcases h with ⟨rfl, h⟩ | ⟨a3, rfl, h⟩
    · refine r_ifnull_t C 50 d_A_compareOutputs_35 (by decide) ?_
      cases h
      exact r_vret C hr d_A_compareOutputs_50
    · refine r_ifnull_f C d_A_compareOutputs_35 ?_
      refine r_aload_n (x := (some a3)) C d_A_compareOutputs_38 rfl rfl ?_
      replace h := g_ob h; obtain ⟨n26, e_n26, h⟩ := h
      replace h := g_o2 h; obtain ⟨r4, V5, e_r4, h⟩ := h
      refine r_callV (As := []) C k_A_112 w_49 w_50 w_47 ⟨_, _, rfl⟩ (c_N_hasFailed l E base base a3 L V2 e_r4) d_A_compareOutputs_39 e_n26 rfl ⟨Nat.le_of_ble_eq_true rfl, Nat.le_of_ble_eq_true rfl⟩ (Nat.le_of_ble_eq_true rfl) (Nat.le_of_ble_eq_true rfl) (Nat.le_of_ble_eq_true rfl) rfl ?_
      refine r_if_ne C 50 d_A_compareOutputs_42 (by decide) (fun c25 => ?_) (fun c25 => ?_)
      · rw [if_neg c25] at h
        cases h
        exact r_vret C hr d_A_compareOutputs_50
      · rw [if_pos c25] at h
        refine r_aload (x := r1) C d_A_compareOutputs_45 rfl ?_
        replace h := g_oon h; rcases h with ⟨rfl, h⟩ | ⟨a6, rfl, h⟩
        · refine r_ifnonnull_f C d_A_compareOutputs_47 ?_
          cases h
          exact r_vret C hr d_A_compareOutputs_50
        · refine r_ifnonnull_t C 51 d_A_compareOutputs_47 (by decide) ?_
          refine r_aload (x := (some a6)) C d_A_compareOutputs_51 rfl ?_
          replace h := g_ob h; obtain ⟨x7, e_x7, h⟩ := h
          refine r_getJ C f_A_224 d_A_compareOutputs_53 e_x7 ?_
          refine r_aload_n (x := (some a3)) C d_A_compareOutputs_56 rfl rfl ?_
          replace h := g_ob h; obtain ⟨x8, e_x8, h⟩ := h
          refine r_getJ C f_A_224 d_A_compareOutputs_57 e_x8 ?_
          refine r_lcmp C d_A_compareOutputs_60 ?_
          refine r_if_ne C 95 d_A_compareOutputs_61 (by decide) (fun c24 => ?_) (fun c24 => ?_)
          · rw [if_neg c24] at h
            refine r_aload (x := (some a6)) C d_A_compareOutputs_95 rfl ?_
            replace h := g_ob h; obtain ⟨x9, e_x9, h⟩ := h
            refine r_getJ C f_A_227 d_A_compareOutputs_97 e_x9 ?_
            refine r_aload_n (x := (some a3)) C d_A_compareOutputs_100 rfl rfl ?_
            replace h := g_ob h; obtain ⟨x10, e_x10, h⟩ := h
            refine r_getJ C f_A_227 d_A_compareOutputs_101 e_x10 ?_
            refine r_lcmp C d_A_compareOutputs_104 ?_
            refine r_if_ne C 118 d_A_compareOutputs_105 (by decide) (fun c15 => ?_) (fun c15 => ?_)
            · rw [if_neg c15] at h
              cases h
              exact r_vret C hr d_A_compareOutputs_118
            · rw [if_pos c15] at h
              refine r_aload_n (x := (some v0)) C d_A_compareOutputs_108 rfl rfl ?_
              replace h := g_ob h; obtain ⟨x11, e_x11, h⟩ := h
              refine r_getR C f_A_28 d_A_compareOutputs_109 e_x11 ?_
              refine r_iconst C (2 : Int32) d_A_compareOutputs_112 (by decide) ?_
              refine r_dup2 C d_A_compareOutputs_113 rfl rfl ?_
              replace h := g_ob h; obtain ⟨a12, rfl, h⟩ := h
              replace h := g_ob h; obtain ⟨x13, e_x13, h⟩ := h
              refine r_iald C ak_100 d_A_compareOutputs_114 e_x13 ?_
              refine r_iconst C (1 : Int32) d_A_compareOutputs_115 (by decide) ?_
              refine r_iadd C d_A_compareOutputs_116 ?_
              replace h := g_ob h; obtain ⟨V14, e_V14, h⟩ := h
              refine r_iast C ak_100 d_A_compareOutputs_117 e_V14 ?_
              cases h
              exact r_vret C hr d_A_compareOutputs_118
          · rw [if_pos c24] at h
            refine r_aload_n (x := (some v0)) C d_A_compareOutputs_64 rfl rfl ?_
            replace h := g_ob h; obtain ⟨x16, e_x16, h⟩ := h
            refine r_getR C f_A_28 d_A_compareOutputs_65 e_x16 ?_
            refine r_iconst C (1 : Int32) d_A_compareOutputs_68 (by decide) ?_
            refine r_dup2 C d_A_compareOutputs_69 rfl rfl ?_
            replace h := g_ob h; obtain ⟨a17, rfl, h⟩ := h
            replace h := g_ob h; obtain ⟨x18, e_x18, h⟩ := h
            refine r_iald C ak_100 d_A_compareOutputs_70 e_x18 ?_
            refine r_iconst C (1 : Int32) d_A_compareOutputs_71 (by decide) ?_
            refine r_iadd C d_A_compareOutputs_72 ?_
            replace h := g_ob h; obtain ⟨V19, e_V19, h⟩ := h
            refine r_iast C ak_100 d_A_compareOutputs_73 e_V19 ?_
            refine r_aload_n (x := (some v2)) C d_A_compareOutputs_74 rfl rfl ?_
            replace h := g_ob h; obtain ⟨x20, e_x20, h⟩ := h
            refine r_getI C f_A_98 d_A_compareOutputs_75 e_x20 ?_
            refine r_iconst C (2 : Int32) d_A_compareOutputs_78 (by decide) ?_
            refine r_icmp_ne C 118 d_A_compareOutputs_79 (by decide) (fun c23 => ?_) (fun c23 => ?_)
            · rw [if_neg c23] at h
              cases h
              exact r_vret C hr d_A_compareOutputs_118
            · rw [if_pos c23] at h
              refine r_aload_n (x := (some v0)) C d_A_compareOutputs_82 rfl rfl ?_
              refine r_dup C d_A_compareOutputs_83 rfl ?_
              replace h := g_ob h; obtain ⟨x21, e_x21, h⟩ := h
              refine r_getI C f_A_35 d_A_compareOutputs_84 e_x21 ?_
              refine r_iconst C (1 : Int32) d_A_compareOutputs_87 (by decide) ?_
              refine r_iadd C d_A_compareOutputs_88 ?_
              replace h := g_ob h; obtain ⟨V22, e_V22, h⟩ := h
              refine r_put C f_A_35 d_A_compareOutputs_89 e_V22 (g_nI (x21 + (1 : Int32))).1 (g_nI (x21 + (1 : Int32))).2 ?_
              refine r_goto C 118 d_A_compareOutputs_92 (by decide) ?_
              cases h
              exact r_vret C hr d_A_compareOutputs_118
set_option maxHeartbeats 4000000 in
set_option maxRecDepth 100000 in
theorem t_A_compareOutputs_17 (C : gC E base p s m args meth c b_A_compareOutputs R_A 5) (hr : meth.sig.returnType = none) {z : Unit × gV} (v0 : Nat) (v1 : Option Nat) (v2 : Nat) (V : gV) (h : D_A_compareOutputs_17 L  v0 v1 v2 V = some z) : vW E base base 5 p l e rm_A_compareOutputs s m args below meth c 0 0 (g_MQ E base base below args s 0 0 L z.2 none) L V 17 [(0, tR (some v0)), (1, tR v1), (2, tR (some v2))] [] := by
  unfold D_A_compareOutputs_17 at h
  refine r_iconst C (1 : Int32) d_A_compareOutputs_17 (by decide) ?_
  refine r_goto C 22 d_A_compareOutputs_18 (by decide) ?_
  exact t_A_compareOutputs_22 C hr  v0 v1 v2 (1 : Int32) V h
set_option maxHeartbeats 4000000 in
set_option maxRecDepth 100000 in
theorem t_A_compareOutputs_0 (C : gC E base p s m args meth c b_A_compareOutputs R_A 5) (hr : meth.sig.returnType = none) {z : Unit × gV} (h0 : Nat) (p1 : Option Nat) (p2 : Nat) (V : gV) (h : D_A_compareOutputs h0 p1 p2 L V = some z) : vW E base base 5 p l e rm_A_compareOutputs s m args below meth c 0 0 (g_MQ E base base below args s 0 0 L z.2 none) L V 0 [(0, tR (some h0)), (1, tR p1), (2, tR (some p2))] [] := by
  unfold D_A_compareOutputs at h
  refine r_aload_n (x := (some p2)) C d_A_compareOutputs_0 rfl rfl ?_
  replace h := g_ob h; obtain ⟨x1, e_x1, h⟩ := h
  refine r_getI C f_A_98 d_A_compareOutputs_1 e_x1 ?_
  refine r_iconst C (2 : Int32) d_A_compareOutputs_4 (by decide) ?_
  refine r_icmp_eq C 17 d_A_compareOutputs_5 (by decide) (fun c4 => ?_) (fun c4 => ?_)
  · rw [if_pos c4] at h
    exact t_A_compareOutputs_17 C hr  h0 p1 p2 V h
  · rw [if_neg c4] at h
    refine r_aload_n (x := (some p2)) C d_A_compareOutputs_8 rfl rfl ?_
    replace h := g_ob h; obtain ⟨x2, e_x2, h⟩ := h
    refine r_getI C f_A_98 d_A_compareOutputs_9 e_x2 ?_
    refine r_bipush C (6 : Int32) d_A_compareOutputs_12 (by decide) ?_
    refine r_icmp_ne C 21 d_A_compareOutputs_14 (by decide) (fun c3 => ?_) (fun c3 => ?_)
    · rw [if_neg c3] at h
      refine r_iconst C (0 : Int32) d_A_compareOutputs_21 (by decide) ?_
      exact t_A_compareOutputs_22 C hr  h0 p1 p2 (0 : Int32) V h
    · rw [if_pos c3] at h
      exact t_A_compareOutputs_17 C hr  h0 p1 p2 V h
theorem c_A_compareOutputs (l : Launch) (E : gE) (base : Nat) (h0 : Nat) (p1 : Option Nat) (p2 : Nat) (L : gL) (V : gV) {z : Unit × gV} (h : D_A_compareOutputs h0 p1 p2 L V = some z) : g_Met l E base base y_A_compareOutputs b_A_compareOutputs 5 none rm_A_compareOutputs [tR (some h0), tR p1, tR (some p2)] L V none L z.2 :=
  r_enter R_A (by decide) rfl [tR (some h0), tR p1, tR (some p2)] [(0, tR (some h0)), (1, tR p1), (2, tR (some p2))] rfl (Nat.le_of_ble_eq_true rfl) (fun p e s m args below meth c C hr hnm => t_A_compareOutputs_0 C hr h0 p1 p2 V h)
def rm_A_causeToRedo : Room := { frames := 2, cells := 0, slots := 0, locals := 47 }
def D_A_causeToRedo (p0 : Nat) (p1 : Nat) (L : gL) (V : gV) : Option (Int32 × gV) :=
  Option.bind ((L).2 2 p0) fun n17 =>
    g_b2 (D_T_entryAt p0 (0 : Int32) L V) fun r1 V2 =>
    (g_on r1
    (some ((0 : Int32), V2))
    (fun a3 =>
    Option.bind (g_rI L V2 2 p0 3) fun x4 =>
    Option.bind ((L).2 0 a3) fun n16 =>
    g_b2 (D_N_firstDifference a3 p1 x4 L V2) fun r5 V6 =>
    Option.bind (g_rI L V6 2 p0 6) fun x7 =>
    (if x7 = 0 then
    (if r5 = (-1 : Int32) then
    some ((1 : Int32), V6)
  else
    Option.bind (g_rR L V6 2 p0 2) fun x8 =>
    Option.bind x8 fun a9 =>
    Option.bind (g_aI L V6 100 a9 r5) fun x10 =>
    g_b2 (D_A_isFileCode x10 L V6) fun r11 V12 =>
    (if r11 = 0 then
    some ((3 : Int32), V12)
  else
    some ((2 : Int32), V12)))
  else
    some ((1 : Int32), V6))))
set_option maxHeartbeats 4000000 in
set_option maxRecDepth 100000 in
theorem t_A_causeToRedo_0 (C : gC E bA p s m args meth c b_A_causeToRedo R_A 4) (hr : meth.sig.returnType = (some .int)) {z : Int32 × gV} (p0 : Nat) (p1 : Nat) (V : gV) (h : D_A_causeToRedo p0 p1 L V = some z) : vW E base bA 4 p l e rm_A_causeToRedo s m args below meth c 0 0 (g_MQ E base bA below args s 0 0 L z.2 (some (tI z.1))) L V 0 [(0, tR (some p0)), (1, tR (some p1))] [] := by
  unfold D_A_causeToRedo at h
  refine r_aload_n (x := (some p0)) C d_A_causeToRedo_0 rfl rfl ?_
  refine r_iconst C (0 : Int32) d_A_causeToRedo_1 (by decide) ?_
  replace h := g_ob h; obtain ⟨n17, e_n17, h⟩ := h
  replace h := g_o2 h; obtain ⟨r1, V2, e_r1, h⟩ := h
  refine r_callV (As := [tI (0 : Int32)]) C k_A_108 w_148 w_149 w_146 ⟨_, _, rfl⟩ (c_T_entryAt l E base bA p0 (0 : Int32) L V e_r1) d_A_causeToRedo_2 e_n17 rfl ⟨Nat.le_of_ble_eq_true rfl, Nat.le_of_ble_eq_true rfl⟩ (Nat.le_of_ble_eq_true rfl) (Nat.le_of_ble_eq_true rfl) (Nat.le_of_ble_eq_true rfl) rfl ?_
  refine r_astore_n (lv' := [(2, tR r1), (0, tR (some p0)), (1, tR (some p1))]) C d_A_causeToRedo_5 rfl (by decide) rfl ?_
  refine r_aload_n (x := r1) C d_A_causeToRedo_6 rfl rfl ?_
  replace h := g_oon h; rcases h with ⟨rfl, h⟩ | ⟨a3, rfl, h⟩
  · refine r_ifnonnull_f C d_A_causeToRedo_7 ?_
    refine r_iconst C (0 : Int32) d_A_causeToRedo_10 (by decide) ?_
    cases h
    exact r_iret C hr d_A_causeToRedo_11
  · refine r_ifnonnull_t C 12 d_A_causeToRedo_7 (by decide) ?_
    refine r_aload_n (x := (some a3)) C d_A_causeToRedo_12 rfl rfl ?_
    refine r_aload_n (x := (some p1)) C d_A_causeToRedo_13 rfl rfl ?_
    refine r_aload_n (x := (some p0)) C d_A_causeToRedo_14 rfl rfl ?_
    replace h := g_ob h; obtain ⟨x4, e_x4, h⟩ := h
    refine r_getI C f_A_130 d_A_causeToRedo_15 e_x4 ?_
    replace h := g_ob h; obtain ⟨n16, e_n16, h⟩ := h
    replace h := g_o2 h; obtain ⟨r5, V6, e_r5, h⟩ := h
    refine r_callV (As := [tR (some p1), tI x4]) C k_A_220 w_43 w_44 w_41 ⟨_, _, rfl⟩ (c_N_firstDifference l E base bA a3 p1 x4 L V2 e_r5) d_A_causeToRedo_18 e_n16 rfl ⟨Nat.le_of_ble_eq_true rfl, Nat.le_of_ble_eq_true rfl⟩ (Nat.le_of_ble_eq_true rfl) (Nat.le_of_ble_eq_true rfl) (Nat.le_of_ble_eq_true rfl) rfl ?_
    refine r_istore_n (lv' := [(3, tI r5), (2, tR (some a3)), (0, tR (some p0)), (1, tR (some p1))]) C d_A_causeToRedo_21 rfl (by decide) rfl ?_
    refine r_aload_n (x := (some p0)) C d_A_causeToRedo_22 rfl rfl ?_
    replace h := g_ob h; obtain ⟨x7, e_x7, h⟩ := h
    refine r_getI C f_A_78 d_A_causeToRedo_23 e_x7 ?_
    refine r_if_ne C 34 d_A_causeToRedo_26 (by decide) (fun c15 => ?_) (fun c15 => ?_)
    · rw [if_neg c15] at h
      refine r_iconst C (1 : Int32) d_A_causeToRedo_34 (by decide) ?_
      cases h
      exact r_iret C hr d_A_causeToRedo_35
    · rw [if_pos c15] at h
      refine r_iload_n (x := r5) C d_A_causeToRedo_29 rfl rfl ?_
      refine r_iconst C (-1 : Int32) d_A_causeToRedo_30 (by decide) ?_
      refine r_icmp_ne C 36 d_A_causeToRedo_31 (by decide) (fun c14 => ?_) (fun c14 => ?_)
      · rw [if_neg c14] at h
        refine r_aload_n (x := (some p0)) C d_A_causeToRedo_36 rfl rfl ?_
        replace h := g_ob h; obtain ⟨x8, e_x8, h⟩ := h
        refine r_getR C f_A_149 d_A_causeToRedo_37 e_x8 ?_
        refine r_iload_n (x := r5) C d_A_causeToRedo_40 rfl rfl ?_
        replace h := g_ob h; obtain ⟨a9, rfl, h⟩ := h
        replace h := g_ob h; obtain ⟨x10, e_x10, h⟩ := h
        refine r_iald C ak_100 d_A_causeToRedo_41 e_x10 ?_
        replace h := g_o2 h; obtain ⟨r11, V12, e_r11, h⟩ := h
        refine r_callS (As := [tI x10]) C k_A_152 w_135 w_129 (c_A_isFileCode l E base bA x10 L V6 e_r11) d_A_causeToRedo_42 rfl ⟨Nat.le_of_ble_eq_true rfl, Nat.le_of_ble_eq_true rfl⟩ (Nat.le_of_ble_eq_true rfl) (Nat.le_of_ble_eq_true rfl) (Nat.le_of_ble_eq_true rfl) rfl ?_
        refine r_if_eq C 52 d_A_causeToRedo_45 (by decide) (fun c13 => ?_) (fun c13 => ?_)
        · rw [if_pos c13] at h
          refine r_iconst C (3 : Int32) d_A_causeToRedo_52 (by decide) ?_
          cases h
          exact r_iret C hr d_A_causeToRedo_53
        · rw [if_neg c13] at h
          refine r_iconst C (2 : Int32) d_A_causeToRedo_48 (by decide) ?_
          refine r_goto C 53 d_A_causeToRedo_49 (by decide) ?_
          cases h
          exact r_iret C hr d_A_causeToRedo_53
      · rw [if_pos c14] at h
        refine r_iconst C (1 : Int32) d_A_causeToRedo_34 (by decide) ?_
        cases h
        exact r_iret C hr d_A_causeToRedo_35
theorem c_A_causeToRedo (l : Launch) (E : gE) (base bA : Nat) (p0 : Nat) (p1 : Nat) (L : gL) (V : gV) {z : Int32 × gV} (h : D_A_causeToRedo p0 p1 L V = some z) : g_Met l E base bA y_A_causeToRedo b_A_causeToRedo 4 (some .int) rm_A_causeToRedo [tR (some p0), tR (some p1)] L V (some (tI z.1)) L z.2 :=
  r_enter R_A (by decide) rfl [tR (some p0), tR (some p1)] [(0, tR (some p0)), (1, tR (some p1))] rfl (Nat.le_of_ble_eq_true rfl) (fun p e s m args below meth c C hr hnm => t_A_causeToRedo_0 C hr p0 p1 V h)
def rm_A_bringUpToDate : Room := { frames := 4, cells := 0, slots := 0, locals := 88 }
def D_A_bringUpToDate_71 (L : gL) (v0 : Nat) (v1 : Nat) (v2 : Option Nat) (V : gV) : Option (Unit × gV) :=
  Option.bind ((L).2 3 v0) fun n3 =>
    g_b2 (D_A_compareOutputs v0 v2 v1 L V) fun r1 V2 =>
    some ((), V2)
def D_A_bringUpToDate_41 (L : gL) (v0 : Nat) (v1 : Nat) (v2 : Option Nat) (v3 : Nat) (v4 : Int32) (V : gV) : Option (Unit × gV) :=
  g_b2 (D_A_causeToRedo v1 v3 L V) fun r1 V2 =>
    Option.bind ((L).2 2 v1) fun n10 =>
    g_b2 (D_T_redo v1 v4 L V2) fun r3 V4 =>
    Option.bind (g_wr L V4 2 v1 10 (tI r1)) fun V5 =>
    Option.bind (g_rR L V5 3 v0 5) fun x6 =>
    Option.bind x6 fun a7 =>
    Option.bind (g_aI L V5 100 a7 r1) fun x8 =>
    Option.bind (g_wa L V5 100 a7 r1 (tI (x8 + (1 : Int32)))) fun V9 =>
    D_A_bringUpToDate_71 L  v0 v1 v2 V9
def D_A_bringUpToDate (h0 : Nat) (p1 : Nat) (L : gL) (V : gV) : Option (Unit × gV) :=
  Option.bind ((L).2 2 p1) fun n16 =>
    g_b2 (D_T_entryAt p1 (0 : Int32) L V) fun r1 V2 =>
    Option.bind ((L).2 3 h0) fun n15 =>
    g_b2 (D_A_readNow h0 p1 L V2) fun r3 V4 =>
    Option.bind r3 fun a5 =>
    Option.bind ((L).2 2 p1) fun n14 =>
    g_b2 (D_T_placeOfSameReads p1 a5 L V4) fun r6 V7 =>
    (if r6 = (-1 : Int32) then
    D_A_bringUpToDate_41 L  h0 p1 r1 a5 r6 V7
  else
    Option.bind (g_rI L V7 2 p1 6) fun x8 =>
    (if x8 = 0 then
    Option.bind ((L).2 2 p1) fun n11 =>
    g_b2 (D_T_reuse p1 r6 L V7) fun r9 V10 =>
    D_A_bringUpToDate_71 L  h0 p1 r1 V10
  else
    D_A_bringUpToDate_41 L  h0 p1 r1 a5 r6 V7))
set_option maxHeartbeats 4000000 in
set_option maxRecDepth 100000 in
theorem t_A_bringUpToDate_71 (C : gC E base p s m args meth c b_A_bringUpToDate R_A 6) (hr : meth.sig.returnType = none) {z : Unit × gV} (v0 : Nat) (v1 : Nat) (v2 : Option Nat) (V : gV) (h : D_A_bringUpToDate_71 L  v0 v1 v2 V = some z) : vW E base base 6 p l e rm_A_bringUpToDate s m args below meth c 0 0 (g_MQ E base base below args s 0 0 L z.2 none) L V 71 [(0, tR (some v0)), (1, tR (some v1)), (2, tR v2)] [] := by
  unfold D_A_bringUpToDate_71 at h
  refine r_aload_n (x := (some v0)) C d_A_bringUpToDate_71 rfl rfl ?_
  refine r_aload_n (x := v2) C d_A_bringUpToDate_72 rfl rfl ?_
  refine r_aload_n (x := (some v1)) C d_A_bringUpToDate_73 rfl rfl ?_
  replace h := g_ob h; obtain ⟨n3, e_n3, h⟩ := h
  replace h := g_o2 h; obtain ⟨r1, V2, e_r1, h⟩ := h
  refine r_callV (As := [tR v2, tR (some v1)]) C k_A_206 w_202 w_203 w_200 ⟨_, _, rfl⟩ (c_A_compareOutputs l E base v0 v2 v1 L V e_r1) d_A_bringUpToDate_74 e_n3 rfl ⟨Nat.le_of_ble_eq_true rfl, Nat.le_of_ble_eq_true rfl⟩ (Nat.le_of_ble_eq_true rfl) (Nat.le_of_ble_eq_true rfl) (Nat.le_of_ble_eq_true rfl) rfl ?_
  cases h
  exact r_vret C hr d_A_bringUpToDate_77
set_option maxHeartbeats 4000000 in
set_option maxRecDepth 100000 in
theorem t_A_bringUpToDate_41 (C : gC E base p s m args meth c b_A_bringUpToDate R_A 6) (hr : meth.sig.returnType = none) {z : Unit × gV} (v0 : Nat) (v1 : Nat) (v2 : Option Nat) (v3 : Nat) (v4 : Int32) (V : gV) (h : D_A_bringUpToDate_41 L  v0 v1 v2 v3 v4 V = some z) : vW E base base 6 p l e rm_A_bringUpToDate s m args below meth c 0 0 (g_MQ E base base below args s 0 0 L z.2 none) L V 41 [(0, tR (some v0)), (1, tR (some v1)), (2, tR v2), (3, tR (some v3)), (4, tI v4)] [] := by
  unfold D_A_bringUpToDate_41 at h
  refine r_aload_n (x := (some v1)) C d_A_bringUpToDate_41 rfl rfl ?_
  refine r_aload_n (x := (some v3)) C d_A_bringUpToDate_42 rfl rfl ?_
  replace h := g_o2 h; obtain ⟨r1, V2, e_r1, h⟩ := h
  refine r_callS (As := [tR (some v1), tR (some v3)]) C k_A_199 w_212 w_205 (c_A_causeToRedo l E base base v1 v3 L V e_r1) d_A_bringUpToDate_43 rfl ⟨Nat.le_of_ble_eq_true rfl, Nat.le_of_ble_eq_true rfl⟩ (Nat.le_of_ble_eq_true rfl) (Nat.le_of_ble_eq_true rfl) (Nat.le_of_ble_eq_true rfl) rfl ?_
  refine r_istore (lv' := [(5, tI r1), (0, tR (some v0)), (1, tR (some v1)), (2, tR v2), (3, tR (some v3)), (4, tI v4)]) C d_A_bringUpToDate_46 (by decide) rfl ?_
  refine r_aload_n (x := (some v1)) C d_A_bringUpToDate_48 rfl rfl ?_
  refine r_iload (x := v4) C d_A_bringUpToDate_49 rfl ?_
  replace h := g_ob h; obtain ⟨n10, e_n10, h⟩ := h
  replace h := g_o2 h; obtain ⟨r3, V4, e_r3, h⟩ := h
  refine r_callV (As := [tI v4]) C k_A_203 w_210 w_211 w_207 ⟨_, _, rfl⟩ (c_T_redo l E base v1 v4 L V2 e_r3) d_A_bringUpToDate_51 e_n10 rfl ⟨Nat.le_of_ble_eq_true rfl, Nat.le_of_ble_eq_true rfl⟩ (Nat.le_of_ble_eq_true rfl) (Nat.le_of_ble_eq_true rfl) (Nat.le_of_ble_eq_true rfl) rfl ?_
  refine r_aload_n (x := (some v1)) C d_A_bringUpToDate_54 rfl rfl ?_
  refine r_iload (x := r1) C d_A_bringUpToDate_55 rfl ?_
  replace h := g_ob h; obtain ⟨V5, e_V5, h⟩ := h
  refine r_put C f_A_95 d_A_bringUpToDate_57 e_V5 (g_nI r1).1 (g_nI r1).2 ?_
  refine r_aload_n (x := (some v0)) C d_A_bringUpToDate_60 rfl rfl ?_
  replace h := g_ob h; obtain ⟨x6, e_x6, h⟩ := h
  refine r_getR C f_A_32 d_A_bringUpToDate_61 e_x6 ?_
  refine r_iload (x := r1) C d_A_bringUpToDate_64 rfl ?_
  refine r_dup2 C d_A_bringUpToDate_66 rfl rfl ?_
  replace h := g_ob h; obtain ⟨a7, rfl, h⟩ := h
  replace h := g_ob h; obtain ⟨x8, e_x8, h⟩ := h
  refine r_iald C ak_100 d_A_bringUpToDate_67 e_x8 ?_
  refine r_iconst C (1 : Int32) d_A_bringUpToDate_68 (by decide) ?_
  refine r_iadd C d_A_bringUpToDate_69 ?_
  replace h := g_ob h; obtain ⟨V9, e_V9, h⟩ := h
  refine r_iast C ak_100 d_A_bringUpToDate_70 e_V9 ?_
  refine r_lv [1, 2, 3] rfl ?_
  exact t_A_bringUpToDate_71 C hr  v0 v1 v2 V9 h
set_option maxHeartbeats 4000000 in
set_option maxRecDepth 100000 in
theorem t_A_bringUpToDate_0 (C : gC E base p s m args meth c b_A_bringUpToDate R_A 6) (hr : meth.sig.returnType = none) {z : Unit × gV} (h0 : Nat) (p1 : Nat) (V : gV) (h : D_A_bringUpToDate h0 p1 L V = some z) : vW E base base 6 p l e rm_A_bringUpToDate s m args below meth c 0 0 (g_MQ E base base below args s 0 0 L z.2 none) L V 0 [(0, tR (some h0)), (1, tR (some p1))] [] := by
  unfold D_A_bringUpToDate at h
  refine r_aload_n (x := (some p1)) C d_A_bringUpToDate_0 rfl rfl ?_
  refine r_iconst C (0 : Int32) d_A_bringUpToDate_1 (by decide) ?_
  replace h := g_ob h; obtain ⟨n16, e_n16, h⟩ := h
  replace h := g_o2 h; obtain ⟨r1, V2, e_r1, h⟩ := h
  refine r_callV (As := [tI (0 : Int32)]) C k_A_108 w_148 w_149 w_146 ⟨_, _, rfl⟩ (c_T_entryAt l E base base p1 (0 : Int32) L V e_r1) d_A_bringUpToDate_2 e_n16 rfl ⟨Nat.le_of_ble_eq_true rfl, Nat.le_of_ble_eq_true rfl⟩ (Nat.le_of_ble_eq_true rfl) (Nat.le_of_ble_eq_true rfl) (Nat.le_of_ble_eq_true rfl) rfl ?_
  refine r_astore_n (lv' := [(2, tR r1), (0, tR (some h0)), (1, tR (some p1))]) C d_A_bringUpToDate_5 rfl (by decide) rfl ?_
  refine r_aload_n (x := (some h0)) C d_A_bringUpToDate_6 rfl rfl ?_
  refine r_aload_n (x := (some p1)) C d_A_bringUpToDate_7 rfl rfl ?_
  replace h := g_ob h; obtain ⟨n15, e_n15, h⟩ := h
  replace h := g_o2 h; obtain ⟨r3, V4, e_r3, h⟩ := h
  refine r_callV (As := [tR (some p1)]) C k_A_188 w_194 w_195 w_184 ⟨_, _, rfl⟩ (c_A_readNow l E base h0 p1 L V2 e_r3) d_A_bringUpToDate_8 e_n15 rfl ⟨Nat.le_of_ble_eq_true rfl, Nat.le_of_ble_eq_true rfl⟩ (Nat.le_of_ble_eq_true rfl) (Nat.le_of_ble_eq_true rfl) (Nat.le_of_ble_eq_true rfl) rfl ?_
  refine r_astore_n (lv' := [(3, tR r3), (2, tR r1), (0, tR (some h0)), (1, tR (some p1))]) C d_A_bringUpToDate_11 rfl (by decide) rfl ?_
  refine r_aload_n (x := (some p1)) C d_A_bringUpToDate_12 rfl rfl ?_
  refine r_aload_n (x := r3) C d_A_bringUpToDate_13 rfl rfl ?_
  replace h := g_ob h; obtain ⟨a5, rfl, h⟩ := h
  replace h := g_ob h; obtain ⟨n14, e_n14, h⟩ := h
  replace h := g_o2 h; obtain ⟨r6, V7, e_r6, h⟩ := h
  refine r_callV (As := [tR (some a5)]) C k_A_192 w_192 w_193 w_186 ⟨_, _, rfl⟩ (c_T_placeOfSameReads l E base base p1 a5 L V4 e_r6) d_A_bringUpToDate_14 e_n14 rfl ⟨Nat.le_of_ble_eq_true rfl, Nat.le_of_ble_eq_true rfl⟩ (Nat.le_of_ble_eq_true rfl) (Nat.le_of_ble_eq_true rfl) (Nat.le_of_ble_eq_true rfl) rfl ?_
  refine r_istore (lv' := [(4, tI r6), (3, tR (some a5)), (2, tR r1), (0, tR (some h0)), (1, tR (some p1))]) C d_A_bringUpToDate_17 (by decide) rfl ?_
  refine r_iload (x := r6) C d_A_bringUpToDate_19 rfl ?_
  refine r_iconst C (-1 : Int32) d_A_bringUpToDate_21 (by decide) ?_
  refine r_icmp_eq C 41 d_A_bringUpToDate_22 (by decide) (fun c13 => ?_) (fun c13 => ?_)
  · rw [if_pos c13] at h
    refine r_lv [3, 4, 2, 1, 0] rfl ?_
    exact t_A_bringUpToDate_41 C hr  h0 p1 r1 a5 r6 V7 h
  · rw [if_neg c13] at h
    refine r_aload_n (x := (some p1)) C d_A_bringUpToDate_25 rfl rfl ?_
    replace h := g_ob h; obtain ⟨x8, e_x8, h⟩ := h
    refine r_getI C f_A_78 d_A_bringUpToDate_26 e_x8 ?_
    refine r_if_ne C 41 d_A_bringUpToDate_29 (by decide) (fun c12 => ?_) (fun c12 => ?_)
    · rw [if_neg c12] at h
      refine r_lv [3, 4, 2, 1, 0] rfl ?_
      exact t_A_bringUpToDate_41 C hr  h0 p1 r1 a5 r6 V7 h
    · rw [if_pos c12] at h
      refine r_aload_n (x := (some p1)) C d_A_bringUpToDate_32 rfl rfl ?_
      refine r_iload (x := r6) C d_A_bringUpToDate_33 rfl ?_
      replace h := g_ob h; obtain ⟨n11, e_n11, h⟩ := h
      replace h := g_o2 h; obtain ⟨r9, V10, e_r9, h⟩ := h
      refine r_callV (As := [tI r6]) C k_A_196 w_190 w_191 w_188 ⟨_, _, rfl⟩ (c_T_reuse l E base p1 r6 L V7 e_r9) d_A_bringUpToDate_35 e_n11 rfl ⟨Nat.le_of_ble_eq_true rfl, Nat.le_of_ble_eq_true rfl⟩ (Nat.le_of_ble_eq_true rfl) (Nat.le_of_ble_eq_true rfl) (Nat.le_of_ble_eq_true rfl) rfl ?_
      refine r_goto C 71 d_A_bringUpToDate_38 (by decide) ?_
      refine r_lv [3, 4, 2] rfl ?_
      exact t_A_bringUpToDate_71 C hr  h0 p1 r1 V10 h
theorem c_A_bringUpToDate (l : Launch) (E : gE) (base : Nat) (h0 : Nat) (p1 : Nat) (L : gL) (V : gV) {z : Unit × gV} (h : D_A_bringUpToDate h0 p1 L V = some z) : g_Met l E base base y_A_bringUpToDate b_A_bringUpToDate 6 none rm_A_bringUpToDate [tR (some h0), tR (some p1)] L V none L z.2 :=
  r_enter R_A (by decide) rfl [tR (some h0), tR (some p1)] [(0, tR (some h0)), (1, tR (some p1))] rfl (Nat.le_of_ble_eq_true rfl) (fun p e s m args below meth c C hr hnm => t_A_bringUpToDate_0 C hr h0 p1 V h)
def rm_A_buildOne : Room := { frames := 5, cells := 0, slots := 0, locals := 113 }
def D_A_buildOne_26 (L : gL) (v0 : Nat) (v1 : Nat) (V : gV) : Option (Unit × gV) :=
  Option.bind ((L).2 3 v0) fun n20 =>
    g_b2 (D_A_isBlocked v0 v1 L V) fun r1 V2 =>
    (if r1 = 0 then
    Option.bind ((L).2 3 v0) fun n13 =>
    g_b2 (D_A_bringUpToDate v0 v1 L V2) fun r3 V4 =>
    Option.bind (g_rI L V4 2 v1 8) fun x5 =>
    (if x5 = 0 then
    some ((), V4)
  else
    Option.bind (g_rI L V4 2 v1 10) fun x6 =>
    (if x6 = (-1 : Int32) then
    Option.bind (g_rR L V4 3 v0 4) fun x7 =>
    Option.bind x7 fun a8 =>
    Option.bind (g_aI L V4 100 a8 (0 : Int32)) fun x9 =>
    Option.bind (g_wa L V4 100 a8 (0 : Int32) (tI (x9 + (1 : Int32)))) fun V10 =>
    some ((), V10)
  else
    some ((), V4)))
  else
    Option.bind (g_wr L V2 2 v1 9 (tI (5 : Int32))) fun V14 =>
    Option.bind (g_rR L V14 3 v0 4) fun x15 =>
    Option.bind x15 fun a16 =>
    Option.bind (g_aI L V14 100 a16 (3 : Int32)) fun x17 =>
    Option.bind (g_wa L V14 100 a16 (3 : Int32) (tI (x17 + (1 : Int32)))) fun V18 =>
    some ((), V18))
def D_A_buildOne (h0 : Nat) (p1 : Nat) (L : gL) (V : gV) : Option (Unit × gV) :=
  Option.bind ((L).2 3 h0) fun n11 =>
    g_b2 (D_A_isMarked h0 p1 L V) fun r1 V2 =>
    Option.bind (g_bz r1) fun _ =>
    Option.bind (g_wr L V2 2 p1 8 (tI r1)) fun V3 =>
    Option.bind (g_rI L V3 2 p1 8) fun x4 =>
    (if x4 = 0 then
    D_A_buildOne_26 L  h0 p1 V3
  else
    Option.bind (g_rR L V3 3 h0 4) fun x5 =>
    Option.bind x5 fun a6 =>
    Option.bind (g_aI L V3 100 a6 (4 : Int32)) fun x7 =>
    Option.bind (g_wa L V3 100 a6 (4 : Int32) (tI (x7 + (1 : Int32)))) fun V8 =>
    D_A_buildOne_26 L  h0 p1 V8)
set_option maxHeartbeats 4000000 in
set_option maxRecDepth 100000 in
theorem t_A_buildOne_26 (C : gC E base p s m args meth c b_A_buildOne R_A 2) (hr : meth.sig.returnType = none) {z : Unit × gV} (v0 : Nat) (v1 : Nat) (V : gV) (h : D_A_buildOne_26 L  v0 v1 V = some z) : vW E base base 2 p l e rm_A_buildOne s m args below meth c 0 0 (g_MQ E base base below args s 0 0 L z.2 none) L V 26 [(0, tR (some v0)), (1, tR (some v1))] [] := by
  unfold D_A_buildOne_26 at h
  refine r_aload_n (x := (some v0)) C d_A_buildOne_26 rfl rfl ?_
  refine r_aload_n (x := (some v1)) C d_A_buildOne_27 rfl rfl ?_
  replace h := g_ob h; obtain ⟨n20, e_n20, h⟩ := h
  replace h := g_o2 h; obtain ⟨r1, V2, e_r1, h⟩ := h
  refine r_callV (As := [tR (some v1)]) C k_A_165 w_217 w_218 w_179 ⟨_, _, rfl⟩ (c_A_isBlocked l E base base v0 v1 L V e_r1) d_A_buildOne_28 e_n20 rfl ⟨Nat.le_of_ble_eq_true rfl, Nat.le_of_ble_eq_true rfl⟩ (Nat.le_of_ble_eq_true rfl) (Nat.le_of_ble_eq_true rfl) (Nat.le_of_ble_eq_true rfl) rfl ?_
  refine r_if_eq C 50 d_A_buildOne_31 (by decide) (fun c19 => ?_) (fun c19 => ?_)
  · rw [if_pos c19] at h
    refine r_aload_n (x := (some v0)) C d_A_buildOne_50 rfl rfl ?_
    refine r_aload_n (x := (some v1)) C d_A_buildOne_51 rfl rfl ?_
    replace h := g_ob h; obtain ⟨n13, e_n13, h⟩ := h
    replace h := g_o2 h; obtain ⟨r3, V4, e_r3, h⟩ := h
    refine r_callV (As := [tR (some v1)]) C k_A_168 w_215 w_216 w_213 ⟨_, _, rfl⟩ (c_A_bringUpToDate l E base v0 v1 L V2 e_r3) d_A_buildOne_52 e_n13 rfl ⟨Nat.le_of_ble_eq_true rfl, Nat.le_of_ble_eq_true rfl⟩ (Nat.le_of_ble_eq_true rfl) (Nat.le_of_ble_eq_true rfl) (Nat.le_of_ble_eq_true rfl) rfl ?_
    refine r_aload_n (x := (some v1)) C d_A_buildOne_55 rfl rfl ?_
    replace h := g_ob h; obtain ⟨x5, e_x5, h⟩ := h
    refine r_getI C f_A_162 d_A_buildOne_56 e_x5 ?_
    refine r_if_eq C 80 d_A_buildOne_59 (by decide) (fun c12 => ?_) (fun c12 => ?_)
    · rw [if_pos c12] at h
      cases h
      exact r_vret C hr d_A_buildOne_80
    · rw [if_neg c12] at h
      refine r_aload_n (x := (some v1)) C d_A_buildOne_62 rfl rfl ?_
      replace h := g_ob h; obtain ⟨x6, e_x6, h⟩ := h
      refine r_getI C f_A_95 d_A_buildOne_63 e_x6 ?_
      refine r_iconst C (-1 : Int32) d_A_buildOne_66 (by decide) ?_
      refine r_icmp_ne C 80 d_A_buildOne_67 (by decide) (fun c11 => ?_) (fun c11 => ?_)
      · rw [if_neg c11] at h
        cases h
        exact r_vret C hr d_A_buildOne_80
      · rw [if_pos c11] at h
        refine r_aload_n (x := (some v0)) C d_A_buildOne_70 rfl rfl ?_
        replace h := g_ob h; obtain ⟨x7, e_x7, h⟩ := h
        refine r_getR C f_A_28 d_A_buildOne_71 e_x7 ?_
        refine r_iconst C (0 : Int32) d_A_buildOne_74 (by decide) ?_
        refine r_dup2 C d_A_buildOne_75 rfl rfl ?_
        replace h := g_ob h; obtain ⟨a8, rfl, h⟩ := h
        replace h := g_ob h; obtain ⟨x9, e_x9, h⟩ := h
        refine r_iald C ak_100 d_A_buildOne_76 e_x9 ?_
        refine r_iconst C (1 : Int32) d_A_buildOne_77 (by decide) ?_
        refine r_iadd C d_A_buildOne_78 ?_
        replace h := g_ob h; obtain ⟨V10, e_V10, h⟩ := h
        refine r_iast C ak_100 d_A_buildOne_79 e_V10 ?_
        cases h
        exact r_vret C hr d_A_buildOne_80
  · rw [if_neg c19] at h
    refine r_aload_n (x := (some v1)) C d_A_buildOne_34 rfl rfl ?_
    refine r_iconst C (5 : Int32) d_A_buildOne_35 (by decide) ?_
    replace h := g_ob h; obtain ⟨V14, e_V14, h⟩ := h
    refine r_put C f_A_98 d_A_buildOne_36 e_V14 (g_nI (5 : Int32)).1 (g_nI (5 : Int32)).2 ?_
    refine r_aload_n (x := (some v0)) C d_A_buildOne_39 rfl rfl ?_
    replace h := g_ob h; obtain ⟨x15, e_x15, h⟩ := h
    refine r_getR C f_A_28 d_A_buildOne_40 e_x15 ?_
    refine r_iconst C (3 : Int32) d_A_buildOne_43 (by decide) ?_
    refine r_dup2 C d_A_buildOne_44 rfl rfl ?_
    replace h := g_ob h; obtain ⟨a16, rfl, h⟩ := h
    replace h := g_ob h; obtain ⟨x17, e_x17, h⟩ := h
    refine r_iald C ak_100 d_A_buildOne_45 e_x17 ?_
    refine r_iconst C (1 : Int32) d_A_buildOne_46 (by decide) ?_
    refine r_iadd C d_A_buildOne_47 ?_
    replace h := g_ob h; obtain ⟨V18, e_V18, h⟩ := h
    refine r_iast C ak_100 d_A_buildOne_48 e_V18 ?_
    cases h
    exact r_vret C hr d_A_buildOne_49
set_option maxHeartbeats 4000000 in
set_option maxRecDepth 100000 in
theorem t_A_buildOne_0 (C : gC E base p s m args meth c b_A_buildOne R_A 2) (hr : meth.sig.returnType = none) {z : Unit × gV} (h0 : Nat) (p1 : Nat) (V : gV) (h : D_A_buildOne h0 p1 L V = some z) : vW E base base 2 p l e rm_A_buildOne s m args below meth c 0 0 (g_MQ E base base below args s 0 0 L z.2 none) L V 0 [(0, tR (some h0)), (1, tR (some p1))] [] := by
  unfold D_A_buildOne at h
  refine r_aload_n (x := (some p1)) C d_A_buildOne_0 rfl rfl ?_
  refine r_aload_n (x := (some h0)) C d_A_buildOne_1 rfl rfl ?_
  refine r_aload_n (x := (some p1)) C d_A_buildOne_2 rfl rfl ?_
  replace h := g_ob h; obtain ⟨n11, e_n11, h⟩ := h
  replace h := g_o2 h; obtain ⟨r1, V2, e_r1, h⟩ := h
  refine r_callV (As := [tR (some p1)]) C k_A_158 w_173 w_174 w_171 ⟨_, _, rfl⟩ (c_A_isMarked l E base base h0 p1 L V e_r1) d_A_buildOne_3 e_n11 rfl ⟨Nat.le_of_ble_eq_true rfl, Nat.le_of_ble_eq_true rfl⟩ (Nat.le_of_ble_eq_true rfl) (Nat.le_of_ble_eq_true rfl) (Nat.le_of_ble_eq_true rfl) rfl ?_
  replace h := g_ob h; obtain ⟨u10, e_u10, h⟩ := h
  replace h := g_ob h; obtain ⟨V3, e_V3, h⟩ := h
  refine r_put C f_A_162 d_A_buildOne_6 e_V3 (g_nZ (x := r1) (g_bz_spec e_u10)).1 (g_nZ (x := r1) (g_bz_spec e_u10)).2 ?_
  refine r_aload_n (x := (some p1)) C d_A_buildOne_9 rfl rfl ?_
  replace h := g_ob h; obtain ⟨x4, e_x4, h⟩ := h
  refine r_getI C f_A_162 d_A_buildOne_10 e_x4 ?_
  refine r_if_eq C 26 d_A_buildOne_13 (by decide) (fun c9 => ?_) (fun c9 => ?_)
  · rw [if_pos c9] at h
    exact t_A_buildOne_26 C hr  h0 p1 V3 h
  · rw [if_neg c9] at h
    refine r_aload_n (x := (some h0)) C d_A_buildOne_16 rfl rfl ?_
    replace h := g_ob h; obtain ⟨x5, e_x5, h⟩ := h
    refine r_getR C f_A_28 d_A_buildOne_17 e_x5 ?_
    refine r_iconst C (4 : Int32) d_A_buildOne_20 (by decide) ?_
    refine r_dup2 C d_A_buildOne_21 rfl rfl ?_
    replace h := g_ob h; obtain ⟨a6, rfl, h⟩ := h
    replace h := g_ob h; obtain ⟨x7, e_x7, h⟩ := h
    refine r_iald C ak_100 d_A_buildOne_22 e_x7 ?_
    refine r_iconst C (1 : Int32) d_A_buildOne_23 (by decide) ?_
    refine r_iadd C d_A_buildOne_24 ?_
    replace h := g_ob h; obtain ⟨V8, e_V8, h⟩ := h
    refine r_iast C ak_100 d_A_buildOne_25 e_V8 ?_
    exact t_A_buildOne_26 C hr  h0 p1 V8 h
theorem c_A_buildOne (l : Launch) (E : gE) (base : Nat) (h0 : Nat) (p1 : Nat) (L : gL) (V : gV) {z : Unit × gV} (h : D_A_buildOne h0 p1 L V = some z) : g_Met l E base base y_A_buildOne b_A_buildOne 2 none rm_A_buildOne [tR (some h0), tR (some p1)] L V none L z.2 :=
  r_enter R_A (by decide) rfl [tR (some h0), tR (some p1)] [(0, tR (some h0)), (1, tR (some p1))] rfl (Nat.le_of_ble_eq_true rfl) (fun p e s m args below meth c C hr hnm => t_A_buildOne_0 C hr h0 p1 V h)
def rm_A_build : Room := { frames := 6, cells := 0, slots := 0, locals := 134 }
def D_A_build_13 (L : gL) : Nat → Nat → Int32 → Int32 → gV → Option (Int32 × gV)
  | 0, _, _, _, _ => none
  | n + 1, v0, v2, v3, V =>
  Option.bind (g_rI L V 3 v0 3) fun x1 =>
    (if x1 ≤ v3 then
    some (v2, V)
  else
    Option.bind (g_rR L V 3 v0 2) fun x2 =>
    Option.bind x2 fun a3 =>
    Option.bind (g_aR L V 104 a3 v3) fun x4 =>
    Option.bind x4 fun a5 =>
    Option.bind (g_rI L V 2 a5 7) fun x6 =>
    (if x6 = 0 then
    D_A_build_13 L  n v0 v2 (v3 + (1 : Int32)) V
  else
    Option.bind ((L).2 3 v0) fun n11 =>
    g_b2 (D_A_buildOne v0 a5 L V) fun r7 V8 =>
    Option.bind (g_rI L V8 2 a5 10) fun x9 =>
    (if x9 = (-1 : Int32) then
    D_A_build_13 L  n v0 v2 (v3 + (1 : Int32)) V8
  else
    D_A_build_13 L  n v0 (v2 + (1 : Int32)) (v3 + (1 : Int32)) V8)))
def D_A_build (h0 : Nat) (p1 : Int32) (L : gL) (V : gV) : Option (Int32 × gV) :=
  Option.bind ((L).2 3 h0) fun n6 =>
    g_b2 (D_A_forgetLatestBuild h0 L V) fun r1 V2 =>
    Option.bind ((L).2 3 h0) fun n5 =>
    g_b2 (D_A_takeNeeded h0 p1 L V2) fun r3 V4 =>
    D_A_build_13 L  1000 h0 (0 : Int32) (0 : Int32) V4
set_option maxHeartbeats 4000000 in
set_option maxRecDepth 100000 in
theorem t_A_build_13 (C : gC E base p s m args meth c b_A_build R_A 5) (hr : meth.sig.returnType = (some .int)) {z : Int32 × gV} : ∀ (n : Nat) (v0 : Nat) (v2 : Int32) (v3 : Int32) (V : gV), D_A_build_13 L  n v0 v2 v3 V = some z → vW E base base 5 p l e rm_A_build s m args below meth c 0 0 (g_MQ E base base below args s 0 0 L z.2 (some (tI z.1))) L V 13 [(0, tR (some v0)), (2, tI v2), (3, tI v3)] [] := by
  intro n
  induction n with
  | zero =>
    intro v0 v2 v3 V h
    rw [D_A_build_13] at h
    cases h
  | succ n ih =>
    intro v0 v2 v3 V h
    rw [D_A_build_13] at h
    refine r_iload_n (x := v3) C d_A_build_13 rfl rfl ?_
    refine r_aload_n (x := (some v0)) C d_A_build_14 rfl rfl ?_
    replace h := g_ob h; obtain ⟨x1, e_x1, h⟩ := h
    refine r_getI C f_A_25 d_A_build_15 e_x1 ?_
    refine r_icmp_ge C 61 d_A_build_18 (by decide) (fun c13 => ?_) (fun c13 => ?_)
    · rw [if_pos c13] at h
      refine r_iload_n (x := v2) C d_A_build_61 rfl rfl ?_
      cases h
      exact r_iret C hr d_A_build_62
    · rw [if_neg c13] at h
      refine r_aload_n (x := (some v0)) C d_A_build_21 rfl rfl ?_
      replace h := g_ob h; obtain ⟨x2, e_x2, h⟩ := h
      refine r_getR C f_A_21 d_A_build_22 e_x2 ?_
      refine r_iload_n (x := v3) C d_A_build_25 rfl rfl ?_
      replace h := g_ob h; obtain ⟨a3, rfl, h⟩ := h
      replace h := g_ob h; obtain ⟨x4, e_x4, h⟩ := h
      refine r_aald C ak_104 rfl d_A_build_26 e_x4 ?_
      refine r_astore (lv' := [(4, tR x4), (0, tR (some v0)), (2, tI v2), (3, tI v3)]) C d_A_build_27 (by decide) rfl ?_
      refine r_aload (x := x4) C d_A_build_29 rfl ?_
      replace h := g_ob h; obtain ⟨a5, rfl, h⟩ := h
      replace h := g_ob h; obtain ⟨x6, e_x6, h⟩ := h
      refine r_getI C f_A_88 d_A_build_31 e_x6 ?_
      refine r_if_eq C 55 d_A_build_34 (by decide) (fun c12 => ?_) (fun c12 => ?_)
      · rw [if_pos c12] at h
        refine r_iinc (x := v3) (v := v3 + (1 : Int32)) (lv' := [(3, tI (v3 + (1 : Int32))), (4, tR (some a5)), (0, tR (some v0)), (2, tI v2)]) C d_A_build_55 rfl rfl (by decide) rfl ?_
        refine r_goto C 13 d_A_build_58 (by decide) ?_
        refine r_lv [2, 3, 0] rfl ?_
        exact ih v0 v2 (v3 + (1 : Int32)) V h
      · rw [if_neg c12] at h
        refine r_aload_n (x := (some v0)) C d_A_build_37 rfl rfl ?_
        refine r_aload (x := (some a5)) C d_A_build_38 rfl ?_
        replace h := g_ob h; obtain ⟨n11, e_n11, h⟩ := h
        replace h := g_o2 h; obtain ⟨r7, V8, e_r7, h⟩ := h
        refine r_callV (As := [tR (some a5)]) C k_A_91 w_221 w_222 w_219 ⟨_, _, rfl⟩ (c_A_buildOne l E base v0 a5 L V e_r7) d_A_build_40 e_n11 rfl ⟨Nat.le_of_ble_eq_true rfl, Nat.le_of_ble_eq_true rfl⟩ (Nat.le_of_ble_eq_true rfl) (Nat.le_of_ble_eq_true rfl) (Nat.le_of_ble_eq_true rfl) rfl ?_
        refine r_aload (x := (some a5)) C d_A_build_43 rfl ?_
        replace h := g_ob h; obtain ⟨x9, e_x9, h⟩ := h
        refine r_getI C f_A_95 d_A_build_45 e_x9 ?_
        refine r_iconst C (-1 : Int32) d_A_build_48 (by decide) ?_
        refine r_icmp_eq C 55 d_A_build_49 (by decide) (fun c10 => ?_) (fun c10 => ?_)
        · rw [if_pos c10] at h
          refine r_iinc (x := v3) (v := v3 + (1 : Int32)) (lv' := [(3, tI (v3 + (1 : Int32))), (4, tR (some a5)), (0, tR (some v0)), (2, tI v2)]) C d_A_build_55 rfl rfl (by decide) rfl ?_
          refine r_goto C 13 d_A_build_58 (by decide) ?_
          refine r_lv [2, 3, 0] rfl ?_
          exact ih v0 v2 (v3 + (1 : Int32)) V8 h
        · rw [if_neg c10] at h
          refine r_iinc (x := v2) (v := v2 + (1 : Int32)) (lv' := [(2, tI (v2 + (1 : Int32))), (4, tR (some a5)), (0, tR (some v0)), (3, tI v3)]) C d_A_build_52 rfl rfl (by decide) rfl ?_
          refine r_iinc (x := v3) (v := v3 + (1 : Int32)) (lv' := [(3, tI (v3 + (1 : Int32))), (2, tI (v2 + (1 : Int32))), (4, tR (some a5)), (0, tR (some v0))]) C d_A_build_55 rfl rfl (by decide) rfl ?_
          refine r_goto C 13 d_A_build_58 (by decide) ?_
          refine r_lv [3, 1, 0] rfl ?_
          exact ih v0 (v2 + (1 : Int32)) (v3 + (1 : Int32)) V8 h
set_option maxHeartbeats 4000000 in
set_option maxRecDepth 100000 in
theorem t_A_build_0 (C : gC E base p s m args meth c b_A_build R_A 5) (hr : meth.sig.returnType = (some .int)) {z : Int32 × gV} (h0 : Nat) (p1 : Int32) (V : gV) (h : D_A_build h0 p1 L V = some z) : vW E base base 5 p l e rm_A_build s m args below meth c 0 0 (g_MQ E base base below args s 0 0 L z.2 (some (tI z.1))) L V 0 [(0, tR (some h0)), (1, tI p1)] [] := by
  unfold D_A_build at h
  refine r_aload_n (x := (some h0)) C d_A_build_0 rfl rfl ?_
  replace h := g_ob h; obtain ⟨n6, e_n6, h⟩ := h
  replace h := g_o2 h; obtain ⟨r1, V2, e_r1, h⟩ := h
  refine r_callV (As := []) C k_A_81 w_144 w_145 w_124 ⟨_, _, rfl⟩ (c_A_forgetLatestBuild l E base h0 L V e_r1) d_A_build_1 e_n6 rfl ⟨Nat.le_of_ble_eq_true rfl, Nat.le_of_ble_eq_true rfl⟩ (Nat.le_of_ble_eq_true rfl) (Nat.le_of_ble_eq_true rfl) (Nat.le_of_ble_eq_true rfl) rfl ?_
  refine r_aload_n (x := (some h0)) C d_A_build_4 rfl rfl ?_
  refine r_iload_n (x := p1) C d_A_build_5 rfl rfl ?_
  replace h := g_ob h; obtain ⟨n5, e_n5, h⟩ := h
  replace h := g_o2 h; obtain ⟨r3, V4, e_r3, h⟩ := h
  refine r_callV (As := [tI p1]) C k_A_84 w_142 w_143 w_140 ⟨_, _, rfl⟩ (c_A_takeNeeded l E base h0 p1 L V2 e_r3) d_A_build_6 e_n5 rfl ⟨Nat.le_of_ble_eq_true rfl, Nat.le_of_ble_eq_true rfl⟩ (Nat.le_of_ble_eq_true rfl) (Nat.le_of_ble_eq_true rfl) (Nat.le_of_ble_eq_true rfl) rfl ?_
  refine r_iconst C (0 : Int32) d_A_build_9 (by decide) ?_
  refine r_istore_n (lv' := [(2, tI (0 : Int32)), (0, tR (some h0)), (1, tI p1)]) C d_A_build_10 rfl (by decide) rfl ?_
  refine r_iconst C (0 : Int32) d_A_build_11 (by decide) ?_
  refine r_istore_n (lv' := [(3, tI (0 : Int32)), (2, tI (0 : Int32)), (0, tR (some h0)), (1, tI p1)]) C d_A_build_12 rfl (by decide) rfl ?_
  refine r_lv [2, 1, 0] rfl ?_
  exact t_A_build_13 C hr  1000 h0 (0 : Int32) (0 : Int32) V4 h
theorem c_A_build (l : Launch) (E : gE) (base : Nat) (h0 : Nat) (p1 : Int32) (L : gL) (V : gV) {z : Int32 × gV} (h : D_A_build h0 p1 L V = some z) : g_Met l E base base y_A_build b_A_build 5 (some .int) rm_A_build [tR (some h0), tI p1] L V (some (tI z.1)) L z.2 :=
  r_enter R_A (by decide) rfl [tR (some h0), tI p1] [(0, tR (some h0)), (1, tI p1)] rfl (Nat.le_of_ble_eq_true rfl) (fun p e s m args below meth c C hr hnm => t_A_build_0 C hr h0 p1 V h)
def rm_A_state : Room := { frames := 1, cells := 0, slots := 0, locals := 21 }
def D_A_state (h0 : Nat) (p1 : Int32) (L : gL) (V : gV) : Option (Int32 × gV) :=
  Option.bind ((L).2 3 h0) fun n5 =>
    g_b2 (D_A_stepAt h0 p1 L V) fun r1 V2 =>
    (g_on r1
    (some ((0 : Int32), V2))
    (fun a3 =>
    Option.bind (g_rI L V2 2 a3 9) fun x4 =>
    some (x4, V2)))
set_option maxHeartbeats 4000000 in
set_option maxRecDepth 100000 in
theorem t_A_state_0 (C : gC E bA p s m args meth c b_A_state R_A 3) (hr : meth.sig.returnType = (some .int)) {z : Int32 × gV} (h0 : Nat) (p1 : Int32) (V : gV) (h : D_A_state h0 p1 L V = some z) : vW E base bA 3 p l e rm_A_state s m args below meth c 0 0 (g_MQ E base bA below args s 0 0 L z.2 (some (tI z.1))) L V 0 [(0, tR (some h0)), (1, tI p1)] [] := by
  unfold D_A_state at h
  refine r_aload_n (x := (some h0)) C d_A_state_0 rfl rfl ?_
  refine r_iload_n (x := p1) C d_A_state_1 rfl rfl ?_
  replace h := g_ob h; obtain ⟨n5, e_n5, h⟩ := h
  replace h := g_o2 h; obtain ⟨r1, V2, e_r1, h⟩ := h
  refine r_callV (As := [tI p1]) C k_A_59 w_111 w_112 w_102 ⟨_, _, rfl⟩ (c_A_stepAt l E base bA h0 p1 L V e_r1) d_A_state_2 e_n5 rfl ⟨Nat.le_of_ble_eq_true rfl, Nat.le_of_ble_eq_true rfl⟩ (Nat.le_of_ble_eq_true rfl) (Nat.le_of_ble_eq_true rfl) (Nat.le_of_ble_eq_true rfl) rfl ?_
  refine r_astore_n (lv' := [(2, tR r1), (0, tR (some h0)), (1, tI p1)]) C d_A_state_5 rfl (by decide) rfl ?_
  refine r_aload_n (x := r1) C d_A_state_6 rfl rfl ?_
  replace h := g_oon h; rcases h with ⟨rfl, h⟩ | ⟨a3, rfl, h⟩
  · refine r_ifnonnull_f C d_A_state_7 ?_
    refine r_iconst C (0 : Int32) d_A_state_10 (by decide) ?_
    refine r_goto C 18 d_A_state_11 (by decide) ?_
    cases h
    exact r_iret C hr d_A_state_18
  · refine r_ifnonnull_t C 14 d_A_state_7 (by decide) ?_
    refine r_aload_n (x := (some a3)) C d_A_state_14 rfl rfl ?_
    replace h := g_ob h; obtain ⟨x4, e_x4, h⟩ := h
    refine r_getI C f_A_98 d_A_state_15 e_x4 ?_
    cases h
    exact r_iret C hr d_A_state_18
theorem c_A_state (l : Launch) (E : gE) (base bA : Nat) (h0 : Nat) (p1 : Int32) (L : gL) (V : gV) {z : Int32 × gV} (h : D_A_state h0 p1 L V = some z) : g_Met l E base bA y_A_state b_A_state 3 (some .int) rm_A_state [tR (some h0), tI p1] L V (some (tI z.1)) L z.2 :=
  r_enter R_A (by decide) rfl [tR (some h0), tI p1] [(0, tR (some h0)), (1, tI p1)] rfl (Nat.le_of_ble_eq_true rfl) (fun p e s m args below meth c C hr hnm => t_A_state_0 C hr h0 p1 V h)
def rm_A_cause : Room := { frames := 1, cells := 0, slots := 0, locals := 21 }
def D_A_cause (h0 : Nat) (p1 : Int32) (L : gL) (V : gV) : Option (Int32 × gV) :=
  Option.bind ((L).2 3 h0) fun n5 =>
    g_b2 (D_A_stepAt h0 p1 L V) fun r1 V2 =>
    (g_on r1
    (some ((-1 : Int32), V2))
    (fun a3 =>
    Option.bind (g_rI L V2 2 a3 10) fun x4 =>
    some (x4, V2)))
set_option maxHeartbeats 4000000 in
set_option maxRecDepth 100000 in
theorem t_A_cause_0 (C : gC E bA p s m args meth c b_A_cause R_A 3) (hr : meth.sig.returnType = (some .int)) {z : Int32 × gV} (h0 : Nat) (p1 : Int32) (V : gV) (h : D_A_cause h0 p1 L V = some z) : vW E base bA 3 p l e rm_A_cause s m args below meth c 0 0 (g_MQ E base bA below args s 0 0 L z.2 (some (tI z.1))) L V 0 [(0, tR (some h0)), (1, tI p1)] [] := by
  unfold D_A_cause at h
  refine r_aload_n (x := (some h0)) C d_A_cause_0 rfl rfl ?_
  refine r_iload_n (x := p1) C d_A_cause_1 rfl rfl ?_
  replace h := g_ob h; obtain ⟨n5, e_n5, h⟩ := h
  replace h := g_o2 h; obtain ⟨r1, V2, e_r1, h⟩ := h
  refine r_callV (As := [tI p1]) C k_A_59 w_111 w_112 w_102 ⟨_, _, rfl⟩ (c_A_stepAt l E base bA h0 p1 L V e_r1) d_A_cause_2 e_n5 rfl ⟨Nat.le_of_ble_eq_true rfl, Nat.le_of_ble_eq_true rfl⟩ (Nat.le_of_ble_eq_true rfl) (Nat.le_of_ble_eq_true rfl) (Nat.le_of_ble_eq_true rfl) rfl ?_
  refine r_astore_n (lv' := [(2, tR r1), (0, tR (some h0)), (1, tI p1)]) C d_A_cause_5 rfl (by decide) rfl ?_
  refine r_aload_n (x := r1) C d_A_cause_6 rfl rfl ?_
  replace h := g_oon h; rcases h with ⟨rfl, h⟩ | ⟨a3, rfl, h⟩
  · refine r_ifnonnull_f C d_A_cause_7 ?_
    refine r_iconst C (-1 : Int32) d_A_cause_10 (by decide) ?_
    refine r_goto C 18 d_A_cause_11 (by decide) ?_
    cases h
    exact r_iret C hr d_A_cause_18
  · refine r_ifnonnull_t C 14 d_A_cause_7 (by decide) ?_
    refine r_aload_n (x := (some a3)) C d_A_cause_14 rfl rfl ?_
    replace h := g_ob h; obtain ⟨x4, e_x4, h⟩ := h
    refine r_getI C f_A_95 d_A_cause_15 e_x4 ?_
    cases h
    exact r_iret C hr d_A_cause_18
theorem c_A_cause (l : Launch) (E : gE) (base bA : Nat) (h0 : Nat) (p1 : Int32) (L : gL) (V : gV) {z : Int32 × gV} (h : D_A_cause h0 p1 L V = some z) : g_Met l E base bA y_A_cause b_A_cause 3 (some .int) rm_A_cause [tR (some h0), tI p1] L V (some (tI z.1)) L z.2 :=
  r_enter R_A (by decide) rfl [tR (some h0), tI p1] [(0, tR (some h0)), (1, tI p1)] rfl (Nat.le_of_ble_eq_true rfl) (fun p e s m args below meth c C hr hnm => t_A_cause_0 C hr h0 p1 V h)
def rm_A_counted : Room := { frames := 0, cells := 0, slots := 0, locals := 0 }
def D_A_counted (h0 : Nat) (p1 : Int32) (L : gL) (V : gV) : Option (Int32 × gV) :=
  (if p1 < 0 then
    some ((-1 : Int32), V)
  else
    (if p1 < (5 : Int32) then
    Option.bind (g_rR L V 3 h0 4) fun x1 =>
    Option.bind x1 fun a2 =>
    Option.bind (g_aI L V 100 a2 p1) fun x3 =>
    some (x3, V)
  else
    some ((-1 : Int32), V)))
set_option maxHeartbeats 4000000 in
set_option maxRecDepth 100000 in
theorem t_A_counted_0 (C : gC E bA p s m args meth c b_A_counted R_A 2) (hr : meth.sig.returnType = (some .int)) {z : Int32 × gV} (h0 : Nat) (p1 : Int32) (V : gV) (h : D_A_counted h0 p1 L V = some z) : vW E base bA 2 p l e rm_A_counted s m args below meth c 0 0 (g_MQ E base bA below args s 0 0 L z.2 (some (tI z.1))) L V 0 [(0, tR (some h0)), (1, tI p1)] [] := by
  unfold D_A_counted at h
  refine r_iload_n (x := p1) C d_A_counted_0 rfl rfl ?_
  refine r_if_lt C 9 d_A_counted_1 (by decide) (fun c5 => ?_) (fun c5 => ?_)
  · rw [if_pos c5] at h
    refine r_iconst C (-1 : Int32) d_A_counted_9 (by decide) ?_
    cases h
    exact r_iret C hr d_A_counted_10
  · rw [if_neg c5] at h
    refine r_iload_n (x := p1) C d_A_counted_4 rfl rfl ?_
    refine r_iconst C (5 : Int32) d_A_counted_5 (by decide) ?_
    refine r_icmp_lt C 11 d_A_counted_6 (by decide) (fun c4 => ?_) (fun c4 => ?_)
    · rw [if_pos c4] at h
      refine r_aload_n (x := (some h0)) C d_A_counted_11 rfl rfl ?_
      replace h := g_ob h; obtain ⟨x1, e_x1, h⟩ := h
      refine r_getR C f_A_28 d_A_counted_12 e_x1 ?_
      refine r_iload_n (x := p1) C d_A_counted_15 rfl rfl ?_
      replace h := g_ob h; obtain ⟨a2, rfl, h⟩ := h
      replace h := g_ob h; obtain ⟨x3, e_x3, h⟩ := h
      refine r_iald C ak_100 d_A_counted_16 e_x3 ?_
      cases h
      exact r_iret C hr d_A_counted_17
    · rw [if_neg c4] at h
      refine r_iconst C (-1 : Int32) d_A_counted_9 (by decide) ?_
      cases h
      exact r_iret C hr d_A_counted_10
theorem c_A_counted (l : Launch) (E : gE) (base bA : Nat) (h0 : Nat) (p1 : Int32) (L : gL) (V : gV) {z : Int32 × gV} (h : D_A_counted h0 p1 L V = some z) : g_Met l E base bA y_A_counted b_A_counted 2 (some .int) rm_A_counted [tR (some h0), tI p1] L V (some (tI z.1)) L z.2 :=
  r_enter R_A (by decide) rfl [tR (some h0), tI p1] [(0, tR (some h0)), (1, tI p1)] rfl (Nat.le_of_ble_eq_true rfl) (fun p e s m args below meth c C hr hnm => t_A_counted_0 C hr h0 p1 V h)
def rm_A_records : Room := { frames := 1, cells := 0, slots := 0, locals := 21 }
def D_A_records (h0 : Nat) (p1 : Int32) (L : gL) (V : gV) : Option (Int32 × gV) :=
  Option.bind ((L).2 3 h0) fun n5 =>
    g_b2 (D_A_stepAt h0 p1 L V) fun r1 V2 =>
    (g_on r1
    (some ((0 : Int32), V2))
    (fun a3 =>
    Option.bind (g_rI L V2 2 a3 5) fun x4 =>
    some (x4, V2)))
set_option maxHeartbeats 4000000 in
set_option maxRecDepth 100000 in
theorem t_A_records_0 (C : gC E bA p s m args meth c b_A_records R_A 3) (hr : meth.sig.returnType = (some .int)) {z : Int32 × gV} (h0 : Nat) (p1 : Int32) (V : gV) (h : D_A_records h0 p1 L V = some z) : vW E base bA 3 p l e rm_A_records s m args below meth c 0 0 (g_MQ E base bA below args s 0 0 L z.2 (some (tI z.1))) L V 0 [(0, tR (some h0)), (1, tI p1)] [] := by
  unfold D_A_records at h
  refine r_aload_n (x := (some h0)) C d_A_records_0 rfl rfl ?_
  refine r_iload_n (x := p1) C d_A_records_1 rfl rfl ?_
  replace h := g_ob h; obtain ⟨n5, e_n5, h⟩ := h
  replace h := g_o2 h; obtain ⟨r1, V2, e_r1, h⟩ := h
  refine r_callV (As := [tI p1]) C k_A_59 w_111 w_112 w_102 ⟨_, _, rfl⟩ (c_A_stepAt l E base bA h0 p1 L V e_r1) d_A_records_2 e_n5 rfl ⟨Nat.le_of_ble_eq_true rfl, Nat.le_of_ble_eq_true rfl⟩ (Nat.le_of_ble_eq_true rfl) (Nat.le_of_ble_eq_true rfl) (Nat.le_of_ble_eq_true rfl) rfl ?_
  refine r_astore_n (lv' := [(2, tR r1), (0, tR (some h0)), (1, tI p1)]) C d_A_records_5 rfl (by decide) rfl ?_
  refine r_aload_n (x := r1) C d_A_records_6 rfl rfl ?_
  replace h := g_oon h; rcases h with ⟨rfl, h⟩ | ⟨a3, rfl, h⟩
  · refine r_ifnonnull_f C d_A_records_7 ?_
    refine r_iconst C (0 : Int32) d_A_records_10 (by decide) ?_
    refine r_goto C 18 d_A_records_11 (by decide) ?_
    cases h
    exact r_iret C hr d_A_records_18
  · refine r_ifnonnull_t C 14 d_A_records_7 (by decide) ?_
    refine r_aload_n (x := (some a3)) C d_A_records_14 rfl rfl ?_
    replace h := g_ob h; obtain ⟨x4, e_x4, h⟩ := h
    refine r_getI C f_A_127 d_A_records_15 e_x4 ?_
    cases h
    exact r_iret C hr d_A_records_18
theorem c_A_records (l : Launch) (E : gE) (base bA : Nat) (h0 : Nat) (p1 : Int32) (L : gL) (V : gV) {z : Int32 × gV} (h : D_A_records h0 p1 L V = some z) : g_Met l E base bA y_A_records b_A_records 3 (some .int) rm_A_records [tR (some h0), tI p1] L V (some (tI z.1)) L z.2 :=
  r_enter R_A (by decide) rfl [tR (some h0), tI p1] [(0, tR (some h0)), (1, tI p1)] rfl (Nat.le_of_ble_eq_true rfl) (fun p e s m args below meth c C hr hnm => t_A_records_0 C hr h0 p1 V h)
def rm_A_record : Room := { frames := 1, cells := 0, slots := 0, locals := 21 }
def D_A_record (h0 : Nat) (p1 : Int32) (p2 : Int32) (p3 : Int32) (L : gL) (V : gV) : Option (Int64 × gV) :=
  Option.bind ((L).2 3 h0) fun n14 =>
    g_b2 (D_A_stepAt h0 p1 L V) fun r1 V2 =>
    (g_on r1
    (some ((0 : Int64), V2))
    (fun a3 =>
    (if p3 < 0 then
    some ((0 : Int64), V2)
  else
    Option.bind (g_rI L V2 2 a3 3) fun x4 =>
    (if p3 < x4 then
    Option.bind ((L).2 2 a3) fun n11 =>
    g_b2 (D_T_entryAt a3 p2 L V2) fun r5 V6 =>
    (g_on r5
    (some ((0 : Int64), V6))
    (fun a7 =>
    Option.bind (g_rR L V6 0 a7 1) fun x8 =>
    Option.bind x8 fun a9 =>
    Option.bind (g_aJ L V6 101 a9 p3) fun x10 =>
    some (x10, V6)))
  else
    some ((0 : Int64), V2)))))
set_option maxHeartbeats 4000000 in
set_option maxRecDepth 100000 in
theorem t_A_record_0 (C : gC E bA p s m args meth c b_A_record R_A 6) (hr : meth.sig.returnType = (some .long)) {z : Int64 × gV} (h0 : Nat) (p1 : Int32) (p2 : Int32) (p3 : Int32) (V : gV) (h : D_A_record h0 p1 p2 p3 L V = some z) : vW E base bA 6 p l e rm_A_record s m args below meth c 0 0 (g_MQ E base bA below args s 0 0 L z.2 (some (tJ z.1))) L V 0 [(0, tR (some h0)), (1, tI p1), (2, tI p2), (3, tI p3)] [] := by
  unfold D_A_record at h
  refine r_aload_n (x := (some h0)) C d_A_record_0 rfl rfl ?_
  refine r_iload_n (x := p1) C d_A_record_1 rfl rfl ?_
  replace h := g_ob h; obtain ⟨n14, e_n14, h⟩ := h
  replace h := g_o2 h; obtain ⟨r1, V2, e_r1, h⟩ := h
  refine r_callV (As := [tI p1]) C k_A_59 w_111 w_112 w_102 ⟨_, _, rfl⟩ (c_A_stepAt l E base bA h0 p1 L V e_r1) d_A_record_2 e_n14 rfl ⟨Nat.le_of_ble_eq_true rfl, Nat.le_of_ble_eq_true rfl⟩ (Nat.le_of_ble_eq_true rfl) (Nat.le_of_ble_eq_true rfl) (Nat.le_of_ble_eq_true rfl) rfl ?_
  refine r_astore (lv' := [(4, tR r1), (0, tR (some h0)), (1, tI p1), (2, tI p2), (3, tI p3)]) C d_A_record_5 (by decide) rfl ?_
  refine r_aload (x := r1) C d_A_record_7 rfl ?_
  replace h := g_oon h; rcases h with ⟨rfl, h⟩ | ⟨a3, rfl, h⟩
  · refine r_ifnull_t C 25 d_A_record_9 (by decide) ?_
    refine r_lconst C (0 : Int64) d_A_record_25 (by decide) ?_
    cases h
    exact r_lret C hr d_A_record_26
  · refine r_ifnull_f C d_A_record_9 ?_
    refine r_iload_n (x := p3) C d_A_record_12 rfl rfl ?_
    refine r_if_lt C 25 d_A_record_13 (by decide) (fun c13 => ?_) (fun c13 => ?_)
    · rw [if_pos c13] at h
      refine r_lconst C (0 : Int64) d_A_record_25 (by decide) ?_
      cases h
      exact r_lret C hr d_A_record_26
    · rw [if_neg c13] at h
      refine r_iload_n (x := p3) C d_A_record_16 rfl rfl ?_
      refine r_aload (x := (some a3)) C d_A_record_17 rfl ?_
      replace h := g_ob h; obtain ⟨x4, e_x4, h⟩ := h
      refine r_getI C f_A_130 d_A_record_19 e_x4 ?_
      refine r_icmp_lt C 27 d_A_record_22 (by decide) (fun c12 => ?_) (fun c12 => ?_)
      · rw [if_pos c12] at h
        refine r_aload (x := (some a3)) C d_A_record_27 rfl ?_
        refine r_iload_n (x := p2) C d_A_record_29 rfl rfl ?_
        replace h := g_ob h; obtain ⟨n11, e_n11, h⟩ := h
        replace h := g_o2 h; obtain ⟨r5, V6, e_r5, h⟩ := h
        refine r_callV (As := [tI p2]) C k_A_108 w_148 w_149 w_146 ⟨_, _, rfl⟩ (c_T_entryAt l E base bA a3 p2 L V2 e_r5) d_A_record_30 e_n11 rfl ⟨Nat.le_of_ble_eq_true rfl, Nat.le_of_ble_eq_true rfl⟩ (Nat.le_of_ble_eq_true rfl) (Nat.le_of_ble_eq_true rfl) (Nat.le_of_ble_eq_true rfl) rfl ?_
        refine r_astore (lv' := [(5, tR r5), (4, tR (some a3)), (0, tR (some h0)), (1, tI p1), (2, tI p2), (3, tI p3)]) C d_A_record_33 (by decide) rfl ?_
        refine r_aload (x := r5) C d_A_record_35 rfl ?_
        replace h := g_oon h; rcases h with ⟨rfl, h⟩ | ⟨a7, rfl, h⟩
        · refine r_ifnonnull_f C d_A_record_37 ?_
          refine r_lconst C (0 : Int64) d_A_record_40 (by decide) ?_
          refine r_goto C 51 d_A_record_41 (by decide) ?_
          cases h
          exact r_lret C hr d_A_record_51
        · refine r_ifnonnull_t C 44 d_A_record_37 (by decide) ?_
          refine r_aload (x := (some a7)) C d_A_record_44 rfl ?_
          replace h := g_ob h; obtain ⟨x8, e_x8, h⟩ := h
          refine r_getR C f_A_133 d_A_record_46 e_x8 ?_
          refine r_iload_n (x := p3) C d_A_record_49 rfl rfl ?_
          replace h := g_ob h; obtain ⟨a9, rfl, h⟩ := h
          replace h := g_ob h; obtain ⟨x10, e_x10, h⟩ := h
          refine r_lald C ak_101 d_A_record_50 e_x10 ?_
          cases h
          exact r_lret C hr d_A_record_51
      · rw [if_neg c12] at h
        refine r_lconst C (0 : Int64) d_A_record_25 (by decide) ?_
        cases h
        exact r_lret C hr d_A_record_26
theorem c_A_record (l : Launch) (E : gE) (base bA : Nat) (h0 : Nat) (p1 : Int32) (p2 : Int32) (p3 : Int32) (L : gL) (V : gV) {z : Int64 × gV} (h : D_A_record h0 p1 p2 p3 L V = some z) : g_Met l E base bA y_A_record b_A_record 6 (some .long) rm_A_record [tR (some h0), tI p1, tI p2, tI p3] L V (some (tJ z.1)) L z.2 :=
  r_enter R_A (by decide) rfl [tR (some h0), tI p1, tI p2, tI p3] [(0, tR (some h0)), (1, tI p1), (2, tI p2), (3, tI p3)] rfl (Nat.le_of_ble_eq_true rfl) (fun p e s m args below meth c C hr hnm => t_A_record_0 C hr h0 p1 p2 p3 V h)
def rm_A_failed : Room := { frames := 1, cells := 0, slots := 0, locals := 21 }
def D_A_failed (h0 : Nat) (p1 : Int32) (p2 : Int32) (L : gL) (V : gV) : Option (Int32 × gV) :=
  Option.bind ((L).2 3 h0) fun n9 =>
    g_b2 (D_A_stepAt h0 p1 L V) fun r1 V2 =>
    (g_on r1
    (some ((-1 : Int32), V2))
    (fun a3 =>
    Option.bind ((L).2 2 a3) fun n8 =>
    g_b2 (D_T_entryAt a3 p2 L V2) fun r4 V5 =>
    (g_on r4
    (some ((-1 : Int32), V5))
    (fun a6 =>
    Option.bind (g_rI L V5 0 a6 2) fun x7 =>
    some (x7, V5)))))
set_option maxHeartbeats 4000000 in
set_option maxRecDepth 100000 in
theorem t_A_failed_0 (C : gC E bA p s m args meth c b_A_failed R_A 5) (hr : meth.sig.returnType = (some .int)) {z : Int32 × gV} (h0 : Nat) (p1 : Int32) (p2 : Int32) (V : gV) (h : D_A_failed h0 p1 p2 L V = some z) : vW E base bA 5 p l e rm_A_failed s m args below meth c 0 0 (g_MQ E base bA below args s 0 0 L z.2 (some (tI z.1))) L V 0 [(0, tR (some h0)), (1, tI p1), (2, tI p2)] [] := by
  unfold D_A_failed at h
  refine r_aload_n (x := (some h0)) C d_A_failed_0 rfl rfl ?_
  refine r_iload_n (x := p1) C d_A_failed_1 rfl rfl ?_
  replace h := g_ob h; obtain ⟨n9, e_n9, h⟩ := h
  replace h := g_o2 h; obtain ⟨r1, V2, e_r1, h⟩ := h
  refine r_callV (As := [tI p1]) C k_A_59 w_111 w_112 w_102 ⟨_, _, rfl⟩ (c_A_stepAt l E base bA h0 p1 L V e_r1) d_A_failed_2 e_n9 rfl ⟨Nat.le_of_ble_eq_true rfl, Nat.le_of_ble_eq_true rfl⟩ (Nat.le_of_ble_eq_true rfl) (Nat.le_of_ble_eq_true rfl) (Nat.le_of_ble_eq_true rfl) rfl ?_
  refine r_astore_n (lv' := [(3, tR r1), (0, tR (some h0)), (1, tI p1), (2, tI p2)]) C d_A_failed_5 rfl (by decide) rfl ?_
  refine r_aload_n (x := r1) C d_A_failed_6 rfl rfl ?_
  replace h := g_oon h; rcases h with ⟨rfl, h⟩ | ⟨a3, rfl, h⟩
  · refine r_ifnonnull_f C d_A_failed_7 ?_
    refine r_iconst C (-1 : Int32) d_A_failed_10 (by decide) ?_
    cases h
    exact r_iret C hr d_A_failed_11
  · refine r_ifnonnull_t C 12 d_A_failed_7 (by decide) ?_
    refine r_aload_n (x := (some a3)) C d_A_failed_12 rfl rfl ?_
    refine r_iload_n (x := p2) C d_A_failed_13 rfl rfl ?_
    replace h := g_ob h; obtain ⟨n8, e_n8, h⟩ := h
    replace h := g_o2 h; obtain ⟨r4, V5, e_r4, h⟩ := h
    refine r_callV (As := [tI p2]) C k_A_108 w_148 w_149 w_146 ⟨_, _, rfl⟩ (c_T_entryAt l E base bA a3 p2 L V2 e_r4) d_A_failed_14 e_n8 rfl ⟨Nat.le_of_ble_eq_true rfl, Nat.le_of_ble_eq_true rfl⟩ (Nat.le_of_ble_eq_true rfl) (Nat.le_of_ble_eq_true rfl) (Nat.le_of_ble_eq_true rfl) rfl ?_
    refine r_astore (lv' := [(4, tR r4), (3, tR (some a3)), (0, tR (some h0)), (1, tI p1), (2, tI p2)]) C d_A_failed_17 (by decide) rfl ?_
    refine r_aload (x := r4) C d_A_failed_19 rfl ?_
    replace h := g_oon h; rcases h with ⟨rfl, h⟩ | ⟨a6, rfl, h⟩
    · refine r_ifnonnull_f C d_A_failed_21 ?_
      refine r_iconst C (-1 : Int32) d_A_failed_24 (by decide) ?_
      refine r_goto C 33 d_A_failed_25 (by decide) ?_
      cases h
      exact r_iret C hr d_A_failed_33
    · refine r_ifnonnull_t C 28 d_A_failed_21 (by decide) ?_
      refine r_aload (x := (some a6)) C d_A_failed_28 rfl ?_
      replace h := g_ob h; obtain ⟨x7, e_x7, h⟩ := h
      refine r_getI C f_A_137 d_A_failed_30 e_x7 ?_
      cases h
      exact r_iret C hr d_A_failed_33
theorem c_A_failed (l : Launch) (E : gE) (base bA : Nat) (h0 : Nat) (p1 : Int32) (p2 : Int32) (L : gL) (V : gV) {z : Int32 × gV} (h : D_A_failed h0 p1 p2 L V = some z) : g_Met l E base bA y_A_failed b_A_failed 5 (some .int) rm_A_failed [tR (some h0), tI p1, tI p2] L V (some (tI z.1)) L z.2 :=
  r_enter R_A (by decide) rfl [tR (some h0), tI p1, tI p2] [(0, tR (some h0)), (1, tI p1), (2, tI p2)] rfl (Nat.le_of_ble_eq_true rfl) (fun p e s m args below meth c C hr hnm => t_A_failed_0 C hr h0 p1 p2 V h)
def rm_A_total : Room := { frames := 0, cells := 0, slots := 0, locals := 0 }
def D_A_total (h0 : Nat) (p1 : Int32) (L : gL) (V : gV) : Option (Int32 × gV) :=
  (if p1 < 0 then
    some ((-1 : Int32), V)
  else
    (if p1 < (4 : Int32) then
    Option.bind (g_rR L V 3 h0 5) fun x1 =>
    Option.bind x1 fun a2 =>
    Option.bind (g_aI L V 100 a2 p1) fun x3 =>
    some (x3, V)
  else
    some ((-1 : Int32), V)))
set_option maxHeartbeats 4000000 in
set_option maxRecDepth 100000 in
theorem t_A_total_0 (C : gC E bA p s m args meth c b_A_total R_A 2) (hr : meth.sig.returnType = (some .int)) {z : Int32 × gV} (h0 : Nat) (p1 : Int32) (V : gV) (h : D_A_total h0 p1 L V = some z) : vW E base bA 2 p l e rm_A_total s m args below meth c 0 0 (g_MQ E base bA below args s 0 0 L z.2 (some (tI z.1))) L V 0 [(0, tR (some h0)), (1, tI p1)] [] := by
  unfold D_A_total at h
  refine r_iload_n (x := p1) C d_A_total_0 rfl rfl ?_
  refine r_if_lt C 9 d_A_total_1 (by decide) (fun c5 => ?_) (fun c5 => ?_)
  · rw [if_pos c5] at h
    refine r_iconst C (-1 : Int32) d_A_total_9 (by decide) ?_
    cases h
    exact r_iret C hr d_A_total_10
  · rw [if_neg c5] at h
    refine r_iload_n (x := p1) C d_A_total_4 rfl rfl ?_
    refine r_iconst C (4 : Int32) d_A_total_5 (by decide) ?_
    refine r_icmp_lt C 11 d_A_total_6 (by decide) (fun c4 => ?_) (fun c4 => ?_)
    · rw [if_pos c4] at h
      refine r_aload_n (x := (some h0)) C d_A_total_11 rfl rfl ?_
      replace h := g_ob h; obtain ⟨x1, e_x1, h⟩ := h
      refine r_getR C f_A_32 d_A_total_12 e_x1 ?_
      refine r_iload_n (x := p1) C d_A_total_15 rfl rfl ?_
      replace h := g_ob h; obtain ⟨a2, rfl, h⟩ := h
      replace h := g_ob h; obtain ⟨x3, e_x3, h⟩ := h
      refine r_iald C ak_100 d_A_total_16 e_x3 ?_
      cases h
      exact r_iret C hr d_A_total_17
    · rw [if_neg c4] at h
      refine r_iconst C (-1 : Int32) d_A_total_9 (by decide) ?_
      cases h
      exact r_iret C hr d_A_total_10
theorem c_A_total (l : Launch) (E : gE) (base bA : Nat) (h0 : Nat) (p1 : Int32) (L : gL) (V : gV) {z : Int32 × gV} (h : D_A_total h0 p1 L V = some z) : g_Met l E base bA y_A_total b_A_total 2 (some .int) rm_A_total [tR (some h0), tI p1] L V (some (tI z.1)) L z.2 :=
  r_enter R_A (by decide) rfl [tR (some h0), tI p1] [(0, tR (some h0)), (1, tI p1)] rfl (Nat.le_of_ble_eq_true rfl) (fun p e s m args below meth c C hr hnm => t_A_total_0 C hr h0 p1 V h)
end GC2
