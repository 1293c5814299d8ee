/-! METHODS (by program): GC3 -/
section GC3
variable {E : gE} {base bA : Nat} {p : Program} {l : Launch} {e : Env} {s : State} {m : MethodId} {args : Array Value} {below : List Frame} {meth : Method} {c : Code} {L : gL}
def rm_M_init : Room := { frames := 1, cells := 20, slots := 1289, locals := 20 }
def D_M_init (h0 : Nat) (L : gL) (V : gV) : Option (Unit × gL × gV) :=
  g_bn (g_new L V 101 16 (fun _ => tJ 0)) fun L1 V2 =>
    Option.bind (g_wr L1 V2 4 h0 3 (tR (some L.1))) fun V3 =>
    g_bn (g_new L1 V3 101 16 (fun _ => tJ 0)) fun L4 V5 =>
    Option.bind (g_wr L4 V5 4 h0 4 (tR (some L1.1))) fun V6 =>
    g_bn (g_new L4 V6 101 16 (fun _ => tJ 0)) fun L7 V8 =>
    Option.bind (g_wr L7 V8 4 h0 5 (tR (some L4.1))) fun V9 =>
    g_bn (g_new L7 V9 102 16 (fun _ => tI 0)) fun L10 V11 =>
    Option.bind (g_wr L10 V11 4 h0 6 (tR (some L7.1))) fun V12 =>
    g_bn (g_new L10 V12 102 16 (fun _ => tI 0)) fun L13 V14 =>
    Option.bind (g_wr L13 V14 4 h0 7 (tR (some L10.1))) fun V15 =>
    g_bn (g_new L13 V15 100 16 (fun _ => tI 0)) fun L16 V17 =>
    Option.bind (g_wr L16 V17 4 h0 8 (tR (some L13.1))) fun V18 =>
    g_bn (g_new L16 V18 100 16 (fun _ => tI 0)) fun L19 V20 =>
    Option.bind (g_wr L19 V20 4 h0 9 (tR (some L16.1))) fun V21 =>
    g_bn (g_new L19 V21 100 96 (fun _ => tI 0)) fun L22 V23 =>
    Option.bind (g_wr L22 V23 4 h0 10 (tR (some L19.1))) fun V24 =>
    g_bn (g_new L22 V24 100 96 (fun _ => tI 0)) fun L25 V26 =>
    Option.bind (g_wr L25 V26 4 h0 11 (tR (some L22.1))) fun V27 =>
    g_bn (g_new L25 V27 100 16 (fun _ => tI 0)) fun L28 V29 =>
    Option.bind (g_wr L28 V29 4 h0 12 (tR (some L25.1))) fun V30 =>
    g_bn (g_new L28 V30 100 64 (fun _ => tI 0)) fun L31 V32 =>
    Option.bind (g_wr L31 V32 4 h0 13 (tR (some L28.1))) fun V33 =>
    g_bn (g_new L31 V33 101 64 (fun _ => tJ 0)) fun L34 V35 =>
    Option.bind (g_wr L34 V35 4 h0 14 (tR (some L31.1))) fun V36 =>
    g_bn (g_new L34 V36 101 384 (fun _ => tJ 0)) fun L37 V38 =>
    Option.bind (g_wr L37 V38 4 h0 15 (tR (some L34.1))) fun V39 =>
    g_bn (g_new L37 V39 102 384 (fun _ => tI 0)) fun L40 V41 =>
    Option.bind (g_wr L40 V41 4 h0 16 (tR (some L37.1))) fun V42 =>
    g_bn (g_new L40 V42 100 16 (fun _ => tI 0)) fun L43 V44 =>
    Option.bind (g_wr L43 V44 4 h0 17 (tR (some L40.1))) fun V45 =>
    g_bn (g_new L43 V45 100 16 (fun _ => tI 0)) fun L46 V47 =>
    Option.bind (g_wr L46 V47 4 h0 18 (tR (some L43.1))) fun V48 =>
    g_bn (g_new L46 V48 100 5 (fun _ => tI 0)) fun L49 V50 =>
    Option.bind (g_wr L49 V50 4 h0 19 (tR (some L46.1))) fun V51 =>
    g_bn (g_new L49 V51 100 4 (fun _ => tI 0)) fun L52 V53 =>
    Option.bind (g_wr L52 V53 4 h0 20 (tR (some L49.1))) fun V54 =>
    g_bn (g_new L52 V54 102 16 (fun _ => tI 0)) fun L55 V56 =>
    Option.bind (g_wr L55 V56 4 h0 21 (tR (some L52.1))) fun V57 =>
    g_bn (g_new L55 V57 102 16 (fun _ => tI 0)) fun L58 V59 =>
    Option.bind (g_wr L58 V59 4 h0 22 (tR (some L55.1))) fun V60 =>
    some ((), L58, V60)
set_option maxHeartbeats 4000000 in
set_option maxRecDepth 100000 in
theorem t_M_init_0 (C : gC E base p s m args meth c b_M_init R_M 1) (hr : meth.sig.returnType = none) (hn : meth.name = "<init>") {z : Unit × gL × gV} (h0 : Nat) (V : gV) (h : D_M_init h0 L V = some z) : vW E base base 1 p l e rm_M_init s m args below meth c 0 0 (g_MQ E base base below args s 20 1289 z.2.1 z.2.2 none) L V 0 [(0, tR (some h0))] [] := by
  unfold D_M_init at h
  refine r_aload_n (x := (some h0)) C d_M_init_0 rfl rfl ?_
  refine r_objInit C w_234 w_1 w_2 d_M_init_1 (Nat.le_of_ble_eq_true rfl) (Nat.le_of_ble_eq_true rfl) ?_
  refine r_aload_n (x := (some h0)) C d_M_init_4 rfl rfl ?_
  refine r_bipush C (16 : Int32) d_M_init_5 (by decide) ?_
  replace h := g_obn h; obtain ⟨L1, V2, e_L1, h⟩ := h
  refine r_newa (at_ := .long) (ty := .long) C rfl ak_101 (fun _ q => by cases q) w_5 d_M_init_7 (by decide) (by decide) (by decide) rfl e_L1 (Nat.le_of_ble_eq_true rfl) (Nat.le_of_ble_eq_true rfl) ?_
  replace h := g_ob h; obtain ⟨V3, e_V3, h⟩ := h
  refine r_putF C f_M_7 d_M_init_9 hn ⟨_, rfl, rfl⟩ e_V3 (g_nA (some L.1)).1 (g_nA (some L.1)).2 ?_
  refine r_aload_n (x := (some h0)) C d_M_init_12 rfl rfl ?_
  refine r_bipush C (16 : Int32) d_M_init_13 (by decide) ?_
  replace h := g_obn h; obtain ⟨L4, V5, e_L4, h⟩ := h
  refine r_newa (at_ := .long) (ty := .long) C rfl ak_101 (fun _ q => by cases q) w_5 d_M_init_15 (by decide) (by decide) (by decide) rfl e_L4 (Nat.le_of_ble_eq_true rfl) (Nat.le_of_ble_eq_true rfl) ?_
  replace h := g_ob h; obtain ⟨V6, e_V6, h⟩ := h
  refine r_putF C f_M_13 d_M_init_17 hn ⟨_, rfl, rfl⟩ e_V6 (g_nA (some L1.1)).1 (g_nA (some L1.1)).2 ?_
  refine r_aload_n (x := (some h0)) C d_M_init_20 rfl rfl ?_
  refine r_bipush C (16 : Int32) d_M_init_21 (by decide) ?_
  replace h := g_obn h; obtain ⟨L7, V8, e_L7, h⟩ := h
  refine r_newa (at_ := .long) (ty := .long) C rfl ak_101 (fun _ q => by cases q) w_5 d_M_init_23 (by decide) (by decide) (by decide) rfl e_L7 (Nat.le_of_ble_eq_true rfl) (Nat.le_of_ble_eq_true rfl) ?_
  replace h := g_ob h; obtain ⟨V9, e_V9, h⟩ := h
  refine r_putF C f_M_16 d_M_init_25 hn ⟨_, rfl, rfl⟩ e_V9 (g_nA (some L4.1)).1 (g_nA (some L4.1)).2 ?_
  refine r_aload_n (x := (some h0)) C d_M_init_28 rfl rfl ?_
  refine r_bipush C (16 : Int32) d_M_init_29 (by decide) ?_
  replace h := g_obn h; obtain ⟨L10, V11, e_L10, h⟩ := h
  refine r_newa (at_ := .boolean) (ty := .boolean) C rfl ak_102 (fun _ q => by cases q) w_3 d_M_init_31 (by decide) (by decide) (by decide) rfl e_L10 (Nat.le_of_ble_eq_true rfl) (Nat.le_of_ble_eq_true rfl) ?_
  replace h := g_ob h; obtain ⟨V12, e_V12, h⟩ := h
  refine r_putF C f_M_19 d_M_init_33 hn ⟨_, rfl, rfl⟩ e_V12 (g_nA (some L7.1)).1 (g_nA (some L7.1)).2 ?_
  refine r_aload_n (x := (some h0)) C d_M_init_36 rfl rfl ?_
  refine r_bipush C (16 : Int32) d_M_init_37 (by decide) ?_
  replace h := g_obn h; obtain ⟨L13, V14, e_L13, h⟩ := h
  refine r_newa (at_ := .boolean) (ty := .boolean) C rfl ak_102 (fun _ q => by cases q) w_3 d_M_init_39 (by decide) (by decide) (by decide) rfl e_L13 (Nat.le_of_ble_eq_true rfl) (Nat.le_of_ble_eq_true rfl) ?_
  replace h := g_ob h; obtain ⟨V15, e_V15, h⟩ := h
  refine r_putF C f_M_23 d_M_init_41 hn ⟨_, rfl, rfl⟩ e_V15 (g_nA (some L10.1)).1 (g_nA (some L10.1)).2 ?_
  refine r_aload_n (x := (some h0)) C d_M_init_44 rfl rfl ?_
  refine r_bipush C (16 : Int32) d_M_init_45 (by decide) ?_
  replace h := g_obn h; obtain ⟨L16, V17, e_L16, h⟩ := h
  refine r_newa (at_ := .int) (ty := .int) C rfl ak_100 (fun _ q => by cases q) w_20 d_M_init_47 (by decide) (by decide) (by decide) rfl e_L16 (Nat.le_of_ble_eq_true rfl) (Nat.le_of_ble_eq_true rfl) ?_
  replace h := g_ob h; obtain ⟨V18, e_V18, h⟩ := h
  refine r_putF C f_M_26 d_M_init_49 hn ⟨_, rfl, rfl⟩ e_V18 (g_nA (some L13.1)).1 (g_nA (some L13.1)).2 ?_
  refine r_aload_n (x := (some h0)) C d_M_init_52 rfl rfl ?_
  refine r_bipush C (16 : Int32) d_M_init_53 (by decide) ?_
  replace h := g_obn h; obtain ⟨L19, V20, e_L19, h⟩ := h
  refine r_newa (at_ := .int) (ty := .int) C rfl ak_100 (fun _ q => by cases q) w_20 d_M_init_55 (by decide) (by decide) (by decide) rfl e_L19 (Nat.le_of_ble_eq_true rfl) (Nat.le_of_ble_eq_true rfl) ?_
  replace h := g_ob h; obtain ⟨V21, e_V21, h⟩ := h
  refine r_putF C f_M_30 d_M_init_57 hn ⟨_, rfl, rfl⟩ e_V21 (g_nA (some L16.1)).1 (g_nA (some L16.1)).2 ?_
  refine r_aload_n (x := (some h0)) C d_M_init_60 rfl rfl ?_
  refine r_bipush C (96 : Int32) d_M_init_61 (by decide) ?_
  replace h := g_obn h; obtain ⟨L22, V23, e_L22, h⟩ := h
  refine r_newa (at_ := .int) (ty := .int) C rfl ak_100 (fun _ q => by cases q) w_20 d_M_init_63 (by decide) (by decide) (by decide) rfl e_L22 (Nat.le_of_ble_eq_true rfl) (Nat.le_of_ble_eq_true rfl) ?_
  replace h := g_ob h; obtain ⟨V24, e_V24, h⟩ := h
  refine r_putF C f_M_33 d_M_init_65 hn ⟨_, rfl, rfl⟩ e_V24 (g_nA (some L19.1)).1 (g_nA (some L19.1)).2 ?_
  refine r_aload_n (x := (some h0)) C d_M_init_68 rfl rfl ?_
  refine r_bipush C (96 : Int32) d_M_init_69 (by decide) ?_
  replace h := g_obn h; obtain ⟨L25, V26, e_L25, h⟩ := h
  refine r_newa (at_ := .int) (ty := .int) C rfl ak_100 (fun _ q => by cases q) w_20 d_M_init_71 (by decide) (by decide) (by decide) rfl e_L25 (Nat.le_of_ble_eq_true rfl) (Nat.le_of_ble_eq_true rfl) ?_
  replace h := g_ob h; obtain ⟨V27, e_V27, h⟩ := h
  refine r_putF C f_M_36 d_M_init_73 hn ⟨_, rfl, rfl⟩ e_V27 (g_nA (some L22.1)).1 (g_nA (some L22.1)).2 ?_
  refine r_aload_n (x := (some h0)) C d_M_init_76 rfl rfl ?_
  refine r_bipush C (16 : Int32) d_M_init_77 (by decide) ?_
  replace h := g_obn h; obtain ⟨L28, V29, e_L28, h⟩ := h
  refine r_newa (at_ := .int) (ty := .int) C rfl ak_100 (fun _ q => by cases q) w_20 d_M_init_79 (by decide) (by decide) (by decide) rfl e_L28 (Nat.le_of_ble_eq_true rfl) (Nat.le_of_ble_eq_true rfl) ?_
  replace h := g_ob h; obtain ⟨V30, e_V30, h⟩ := h
  refine r_putF C f_M_39 d_M_init_81 hn ⟨_, rfl, rfl⟩ e_V30 (g_nA (some L25.1)).1 (g_nA (some L25.1)).2 ?_
  refine r_aload_n (x := (some h0)) C d_M_init_84 rfl rfl ?_
  refine r_bipush C (64 : Int32) d_M_init_85 (by decide) ?_
  replace h := g_obn h; obtain ⟨L31, V32, e_L31, h⟩ := h
  refine r_newa (at_ := .int) (ty := .int) C rfl ak_100 (fun _ q => by cases q) w_20 d_M_init_87 (by decide) (by decide) (by decide) rfl e_L31 (Nat.le_of_ble_eq_true rfl) (Nat.le_of_ble_eq_true rfl) ?_
  replace h := g_ob h; obtain ⟨V33, e_V33, h⟩ := h
  refine r_putF C f_M_42 d_M_init_89 hn ⟨_, rfl, rfl⟩ e_V33 (g_nA (some L28.1)).1 (g_nA (some L28.1)).2 ?_
  refine r_aload_n (x := (some h0)) C d_M_init_92 rfl rfl ?_
  refine r_bipush C (64 : Int32) d_M_init_93 (by decide) ?_
  replace h := g_obn h; obtain ⟨L34, V35, e_L34, h⟩ := h
  refine r_newa (at_ := .long) (ty := .long) C rfl ak_101 (fun _ q => by cases q) w_5 d_M_init_95 (by decide) (by decide) (by decide) rfl e_L34 (Nat.le_of_ble_eq_true rfl) (Nat.le_of_ble_eq_true rfl) ?_
  replace h := g_ob h; obtain ⟨V36, e_V36, h⟩ := h
  refine r_putF C f_M_45 d_M_init_97 hn ⟨_, rfl, rfl⟩ e_V36 (g_nA (some L31.1)).1 (g_nA (some L31.1)).2 ?_
  refine r_aload_n (x := (some h0)) C d_M_init_100 rfl rfl ?_
  refine r_sipush C (384 : Int32) d_M_init_101 (by decide) ?_
  replace h := g_obn h; obtain ⟨L37, V38, e_L37, h⟩ := h
  refine r_newa (at_ := .long) (ty := .long) C rfl ak_101 (fun _ q => by cases q) w_5 d_M_init_104 (by decide) (by decide) (by decide) rfl e_L37 (Nat.le_of_ble_eq_true rfl) (Nat.le_of_ble_eq_true rfl) ?_
  replace h := g_ob h; obtain ⟨V39, e_V39, h⟩ := h
  refine r_putF C f_M_48 d_M_init_106 hn ⟨_, rfl, rfl⟩ e_V39 (g_nA (some L34.1)).1 (g_nA (some L34.1)).2 ?_
  refine r_aload_n (x := (some h0)) C d_M_init_109 rfl rfl ?_
  refine r_sipush C (384 : Int32) d_M_init_110 (by decide) ?_
  replace h := g_obn h; obtain ⟨L40, V41, e_L40, h⟩ := h
  refine r_newa (at_ := .boolean) (ty := .boolean) C rfl ak_102 (fun _ q => by cases q) w_3 d_M_init_113 (by decide) (by decide) (by decide) rfl e_L40 (Nat.le_of_ble_eq_true rfl) (Nat.le_of_ble_eq_true rfl) ?_
  replace h := g_ob h; obtain ⟨V42, e_V42, h⟩ := h
  refine r_putF C f_M_51 d_M_init_115 hn ⟨_, rfl, rfl⟩ e_V42 (g_nA (some L37.1)).1 (g_nA (some L37.1)).2 ?_
  refine r_aload_n (x := (some h0)) C d_M_init_118 rfl rfl ?_
  refine r_bipush C (16 : Int32) d_M_init_119 (by decide) ?_
  replace h := g_obn h; obtain ⟨L43, V44, e_L43, h⟩ := h
  refine r_newa (at_ := .int) (ty := .int) C rfl ak_100 (fun _ q => by cases q) w_20 d_M_init_121 (by decide) (by decide) (by decide) rfl e_L43 (Nat.le_of_ble_eq_true rfl) (Nat.le_of_ble_eq_true rfl) ?_
  replace h := g_ob h; obtain ⟨V45, e_V45, h⟩ := h
  refine r_putF C f_M_54 d_M_init_123 hn ⟨_, rfl, rfl⟩ e_V45 (g_nA (some L40.1)).1 (g_nA (some L40.1)).2 ?_
  refine r_aload_n (x := (some h0)) C d_M_init_126 rfl rfl ?_
  refine r_bipush C (16 : Int32) d_M_init_127 (by decide) ?_
  replace h := g_obn h; obtain ⟨L46, V47, e_L46, h⟩ := h
  refine r_newa (at_ := .int) (ty := .int) C rfl ak_100 (fun _ q => by cases q) w_20 d_M_init_129 (by decide) (by decide) (by decide) rfl e_L46 (Nat.le_of_ble_eq_true rfl) (Nat.le_of_ble_eq_true rfl) ?_
  replace h := g_ob h; obtain ⟨V48, e_V48, h⟩ := h
  refine r_putF C f_M_57 d_M_init_131 hn ⟨_, rfl, rfl⟩ e_V48 (g_nA (some L43.1)).1 (g_nA (some L43.1)).2 ?_
  refine r_aload_n (x := (some h0)) C d_M_init_134 rfl rfl ?_
  refine r_iconst C (5 : Int32) d_M_init_135 (by decide) ?_
  replace h := g_obn h; obtain ⟨L49, V50, e_L49, h⟩ := h
  refine r_newa (at_ := .int) (ty := .int) C rfl ak_100 (fun _ q => by cases q) w_20 d_M_init_136 (by decide) (by decide) (by decide) rfl e_L49 (Nat.le_of_ble_eq_true rfl) (Nat.le_of_ble_eq_true rfl) ?_
  replace h := g_ob h; obtain ⟨V51, e_V51, h⟩ := h
  refine r_putF C f_M_60 d_M_init_138 hn ⟨_, rfl, rfl⟩ e_V51 (g_nA (some L46.1)).1 (g_nA (some L46.1)).2 ?_
  refine r_aload_n (x := (some h0)) C d_M_init_141 rfl rfl ?_
  refine r_iconst C (4 : Int32) d_M_init_142 (by decide) ?_
  replace h := g_obn h; obtain ⟨L52, V53, e_L52, h⟩ := h
  refine r_newa (at_ := .int) (ty := .int) C rfl ak_100 (fun _ q => by cases q) w_20 d_M_init_143 (by decide) (by decide) (by decide) rfl e_L52 (Nat.le_of_ble_eq_true rfl) (Nat.le_of_ble_eq_true rfl) ?_
  replace h := g_ob h; obtain ⟨V54, e_V54, h⟩ := h
  refine r_putF C f_M_63 d_M_init_145 hn ⟨_, rfl, rfl⟩ e_V54 (g_nA (some L49.1)).1 (g_nA (some L49.1)).2 ?_
  refine r_aload_n (x := (some h0)) C d_M_init_148 rfl rfl ?_
  refine r_bipush C (16 : Int32) d_M_init_149 (by decide) ?_
  replace h := g_obn h; obtain ⟨L55, V56, e_L55, h⟩ := h
  refine r_newa (at_ := .boolean) (ty := .boolean) C rfl ak_102 (fun _ q => by cases q) w_3 d_M_init_151 (by decide) (by decide) (by decide) rfl e_L55 (Nat.le_of_ble_eq_true rfl) (Nat.le_of_ble_eq_true rfl) ?_
  replace h := g_ob h; obtain ⟨V57, e_V57, h⟩ := h
  refine r_putF C f_M_66 d_M_init_153 hn ⟨_, rfl, rfl⟩ e_V57 (g_nA (some L52.1)).1 (g_nA (some L52.1)).2 ?_
  refine r_aload_n (x := (some h0)) C d_M_init_156 rfl rfl ?_
  refine r_bipush C (16 : Int32) d_M_init_157 (by decide) ?_
  replace h := g_obn h; obtain ⟨L58, V59, e_L58, h⟩ := h
  refine r_newa (at_ := .boolean) (ty := .boolean) C rfl ak_102 (fun _ q => by cases q) w_3 d_M_init_159 (by decide) (by decide) (by decide) rfl e_L58 (Nat.le_of_ble_eq_true rfl) (Nat.le_of_ble_eq_true rfl) ?_
  replace h := g_ob h; obtain ⟨V60, e_V60, h⟩ := h
  refine r_putF C f_M_69 d_M_init_161 hn ⟨_, rfl, rfl⟩ e_V60 (g_nA (some L55.1)).1 (g_nA (some L55.1)).2 ?_
  cases h
  refine r_wid (k := 20) (n := 1289) (Nat.le_of_ble_eq_true rfl) (Nat.le_of_ble_eq_true rfl) ?_
  exact r_vret C hr d_M_init_164
theorem c_M_init (l : Launch) (E : gE) (base : Nat) (h0 : Nat) (L : gL) (V : gV) {z : Unit × gL × gV} (h : D_M_init h0 L V = some z) : g_Met l E base base y_M_init b_M_init 1 none rm_M_init [tR (some h0)] L V none z.2.1 z.2.2 :=
  r_enter R_M (by decide) rfl [tR (some h0)] [(0, tR (some h0))] rfl (Nat.le_of_ble_eq_true rfl) (fun p e s m args below meth c C hr hnm => t_M_init_0 C hr hnm h0 V h)
def rm_M_thrown : Room := { frames := 0, cells := 0, slots := 0, locals := 0 }
def D_M_thrown (h0 : Nat) (L : gL) (V : gV) : Option (Int32 × gV) :=
  Option.bind (g_rI L V 4 h0 0) fun x1 =>
    some (x1, V)
set_option maxHeartbeats 4000000 in
set_option maxRecDepth 100000 in
theorem t_M_thrown_0 (C : gC E bA p s m args meth c b_M_thrown R_M 1) (hr : meth.sig.returnType = (some .int)) {z : Int32 × gV} (h0 : Nat) (V : gV) (h : D_M_thrown h0 L V = some z) : vW E base bA 1 p l e rm_M_thrown s m args below meth c 0 0 (g_MQ E base bA below args s 0 0 L z.2 (some (tI z.1))) L V 0 [(0, tR (some h0))] [] := by
  unfold D_M_thrown at h
  refine r_aload_n (x := (some h0)) C d_M_thrown_0 rfl rfl ?_
  replace h := g_ob h; obtain ⟨x1, e_x1, h⟩ := h
  refine r_getI C f_M_72 d_M_thrown_1 e_x1 ?_
  cases h
  exact r_iret C hr d_M_thrown_4
theorem c_M_thrown (l : Launch) (E : gE) (base bA : Nat) (h0 : Nat) (L : gL) (V : gV) {z : Int32 × gV} (h : D_M_thrown h0 L V = some z) : g_Met l E base bA y_M_thrown b_M_thrown 1 (some .int) rm_M_thrown [tR (some h0)] L V (some (tI z.1)) L z.2 :=
  r_enter R_M (by decide) rfl [tR (some h0)] [(0, tR (some h0))] rfl (Nat.le_of_ble_eq_true rfl) (fun p e s m args below meth c C hr hnm => t_M_thrown_0 C hr h0 V h)
def rm_M_isFile : Room := { frames := 0, cells := 0, slots := 0, locals := 0 }
def D_M_isFile (h0 : Nat) (p1 : Int32) (L : gL) (V : gV) : Option (Int32 × gV) :=
  (if p1 < 0 then
    some ((0 : Int32), V)
  else
    Option.bind (g_rI L V 4 h0 1) fun x1 =>
    (if x1 ≤ p1 then
    some ((0 : Int32), V)
  else
    some ((1 : Int32), V)))
set_option maxHeartbeats 4000000 in
set_option maxRecDepth 100000 in
theorem t_M_isFile_0 (C : gC E bA p s m args meth c b_M_isFile R_M 2) (hr : meth.sig.returnType = (some .boolean)) {z : Int32 × gV} (h0 : Nat) (p1 : Int32) (V : gV) (h : D_M_isFile h0 p1 L V = some z) : vW E base bA 2 p l e rm_M_isFile s m args below meth c 0 0 (g_MQ E base bA below args s 0 0 L z.2 (some (tI z.1))) L V 0 [(0, tR (some h0)), (1, tI p1)] [] := by
  unfold D_M_isFile at h
  refine r_iload_n (x := p1) C d_M_isFile_0 rfl rfl ?_
  refine r_if_lt C 16 d_M_isFile_1 (by decide) (fun c3 => ?_) (fun c3 => ?_)
  · rw [if_pos c3] at h
    refine r_iconst C (0 : Int32) d_M_isFile_16 (by decide) ?_
    cases h
    exact r_zret C hr d_M_isFile_17 (Or.inl rfl)
  · rw [if_neg c3] at h
    refine r_iload_n (x := p1) C d_M_isFile_4 rfl rfl ?_
    refine r_aload_n (x := (some h0)) C d_M_isFile_5 rfl rfl ?_
    replace h := g_ob h; obtain ⟨x1, e_x1, h⟩ := h
    refine r_getI C f_M_76 d_M_isFile_6 e_x1 ?_
    refine r_icmp_ge C 16 d_M_isFile_9 (by decide) (fun c2 => ?_) (fun c2 => ?_)
    · rw [if_pos c2] at h
      refine r_iconst C (0 : Int32) d_M_isFile_16 (by decide) ?_
      cases h
      exact r_zret C hr d_M_isFile_17 (Or.inl rfl)
    · rw [if_neg c2] at h
      refine r_iconst C (1 : Int32) d_M_isFile_12 (by decide) ?_
      refine r_goto C 17 d_M_isFile_13 (by decide) ?_
      cases h
      exact r_zret C hr d_M_isFile_17 (Or.inr rfl)
theorem c_M_isFile (l : Launch) (E : gE) (base bA : Nat) (h0 : Nat) (p1 : Int32) (L : gL) (V : gV) {z : Int32 × gV} (h : D_M_isFile h0 p1 L V = some z) : g_Met l E base bA y_M_isFile b_M_isFile 2 (some .boolean) rm_M_isFile [tR (some h0), tI p1] L V (some (tI z.1)) L z.2 :=
  r_enter R_M (by decide) rfl [tR (some h0), tI p1] [(0, tR (some h0)), (1, tI p1)] rfl (Nat.le_of_ble_eq_true rfl) (fun p e s m args below meth c C hr hnm => t_M_isFile_0 C hr h0 p1 V h)
def rm_M_isStep : Room := { frames := 0, cells := 0, slots := 0, locals := 0 }
def D_M_isStep (h0 : Nat) (p1 : Int32) (L : gL) (V : gV) : Option (Int32 × gV) :=
  (if p1 < 0 then
    some ((0 : Int32), V)
  else
    Option.bind (g_rI L V 4 h0 2) fun x1 =>
    (if x1 ≤ p1 then
    some ((0 : Int32), V)
  else
    some ((1 : Int32), V)))
set_option maxHeartbeats 4000000 in
set_option maxRecDepth 100000 in
theorem t_M_isStep_0 (C : gC E bA p s m args meth c b_M_isStep R_M 2) (hr : meth.sig.returnType = (some .boolean)) {z : Int32 × gV} (h0 : Nat) (p1 : Int32) (V : gV) (h : D_M_isStep h0 p1 L V = some z) : vW E base bA 2 p l e rm_M_isStep s m args below meth c 0 0 (g_MQ E base bA below args s 0 0 L z.2 (some (tI z.1))) L V 0 [(0, tR (some h0)), (1, tI p1)] [] := by
  unfold D_M_isStep at h
  refine r_iload_n (x := p1) C d_M_isStep_0 rfl rfl ?_
  refine r_if_lt C 16 d_M_isStep_1 (by decide) (fun c3 => ?_) (fun c3 => ?_)
  · rw [if_pos c3] at h
    refine r_iconst C (0 : Int32) d_M_isStep_16 (by decide) ?_
    cases h
    exact r_zret C hr d_M_isStep_17 (Or.inl rfl)
  · rw [if_neg c3] at h
    refine r_iload_n (x := p1) C d_M_isStep_4 rfl rfl ?_
    refine r_aload_n (x := (some h0)) C d_M_isStep_5 rfl rfl ?_
    replace h := g_ob h; obtain ⟨x1, e_x1, h⟩ := h
    refine r_getI C f_M_79 d_M_isStep_6 e_x1 ?_
    refine r_icmp_ge C 16 d_M_isStep_9 (by decide) (fun c2 => ?_) (fun c2 => ?_)
    · rw [if_pos c2] at h
      refine r_iconst C (0 : Int32) d_M_isStep_16 (by decide) ?_
      cases h
      exact r_zret C hr d_M_isStep_17 (Or.inl rfl)
    · rw [if_neg c2] at h
      refine r_iconst C (1 : Int32) d_M_isStep_12 (by decide) ?_
      refine r_goto C 17 d_M_isStep_13 (by decide) ?_
      cases h
      exact r_zret C hr d_M_isStep_17 (Or.inr rfl)
theorem c_M_isStep (l : Launch) (E : gE) (base bA : Nat) (h0 : Nat) (p1 : Int32) (L : gL) (V : gV) {z : Int32 × gV} (h : D_M_isStep h0 p1 L V = some z) : g_Met l E base bA y_M_isStep b_M_isStep 2 (some .boolean) rm_M_isStep [tR (some h0), tI p1] L V (some (tI z.1)) L z.2 :=
  r_enter R_M (by decide) rfl [tR (some h0), tI p1] [(0, tR (some h0)), (1, tI p1)] rfl (Nat.le_of_ble_eq_true rfl) (fun p e s m args below meth c C hr hnm => t_M_isStep_0 C hr h0 p1 V h)
def rm_M_file : Room := { frames := 0, cells := 0, slots := 0, locals := 0 }
def D_M_file (h0 : Nat) (p1 : Int64) (L : gL) (V : gV) : Option (Int32 × gV) :=
  Option.bind (g_wr L V 4 h0 0 (tI (0 : Int32))) fun V1 =>
    Option.bind (g_rI L V1 4 h0 1) fun x2 =>
    (if x2 = (16 : Int32) then
    some ((-1 : Int32), V1)
  else
    Option.bind (g_rR L V1 4 h0 3) fun x3 =>
    Option.bind (g_rI L V1 4 h0 1) fun x4 =>
    Option.bind x3 fun a5 =>
    Option.bind (g_wa L V1 101 a5 x4 (tJ p1)) fun V6 =>
    Option.bind (g_rR L V6 4 h0 6) fun x7 =>
    Option.bind (g_rI L V6 4 h0 1) fun x8 =>
    Option.bind x7 fun a9 =>
    Option.bind (g_wa L V6 102 a9 x8 (tI (1 : Int32))) fun V10 =>
    Option.bind (g_rI L V10 4 h0 1) fun x11 =>
    Option.bind (g_wr L V10 4 h0 1 (tI (x11 + (1 : Int32)))) fun V12 =>
    Option.bind (g_rI L V12 4 h0 1) fun x13 =>
    some (x13 - (1 : Int32), V12))
set_option maxHeartbeats 4000000 in
set_option maxRecDepth 100000 in
theorem t_M_file_0 (C : gC E base p s m args meth c b_M_file R_M 3) (hr : meth.sig.returnType = (some .int)) {z : Int32 × gV} (h0 : Nat) (p1 : Int64) (V : gV) (h : D_M_file h0 p1 L V = some z) : vW E base base 3 p l e rm_M_file s m args below meth c 0 0 (g_MQ E base base below args s 0 0 L z.2 (some (tI z.1))) L V 0 [(0, tR (some h0)), (1, tJ p1)] [] := by
  unfold D_M_file at h
  refine r_aload_n (x := (some h0)) C d_M_file_0 rfl rfl ?_
  refine r_iconst C (0 : Int32) d_M_file_1 (by decide) ?_
  replace h := g_ob h; obtain ⟨V1, e_V1, h⟩ := h
  refine r_put C f_M_72 d_M_file_2 e_V1 (g_nI (0 : Int32)).1 (g_nI (0 : Int32)).2 ?_
  refine r_aload_n (x := (some h0)) C d_M_file_5 rfl rfl ?_
  replace h := g_ob h; obtain ⟨x2, e_x2, h⟩ := h
  refine r_getI C f_M_76 d_M_file_6 e_x2 ?_
  refine r_bipush C (16 : Int32) d_M_file_9 (by decide) ?_
  refine r_icmp_ne C 16 d_M_file_11 (by decide) (fun c14 => ?_) (fun c14 => ?_)
  · rw [if_neg c14] at h
    refine r_aload_n (x := (some h0)) C d_M_file_16 rfl rfl ?_
    replace h := g_ob h; obtain ⟨x3, e_x3, h⟩ := h
    refine r_getR C f_M_7 d_M_file_17 e_x3 ?_
    refine r_aload_n (x := (some h0)) C d_M_file_20 rfl rfl ?_
    replace h := g_ob h; obtain ⟨x4, e_x4, h⟩ := h
    refine r_getI C f_M_76 d_M_file_21 e_x4 ?_
    refine r_lload_n (x := p1) C d_M_file_24 rfl rfl ?_
    replace h := g_ob h; obtain ⟨a5, rfl, h⟩ := h
    replace h := g_ob h; obtain ⟨V6, e_V6, h⟩ := h
    refine r_last C ak_101 d_M_file_25 e_V6 ?_
    refine r_aload_n (x := (some h0)) C d_M_file_26 rfl rfl ?_
    replace h := g_ob h; obtain ⟨x7, e_x7, h⟩ := h
    refine r_getR C f_M_19 d_M_file_27 e_x7 ?_
    refine r_aload_n (x := (some h0)) C d_M_file_30 rfl rfl ?_
    replace h := g_ob h; obtain ⟨x8, e_x8, h⟩ := h
    refine r_getI C f_M_76 d_M_file_31 e_x8 ?_
    refine r_iconst C (1 : Int32) d_M_file_34 (by decide) ?_
    replace h := g_ob h; obtain ⟨a9, rfl, h⟩ := h
    replace h := g_ob h; obtain ⟨V10, e_V10, h⟩ := h
    refine r_zast C ak_102 d_M_file_35 (Or.inr rfl) e_V10 ?_
    refine r_aload_n (x := (some h0)) C d_M_file_36 rfl rfl ?_
    refine r_dup C d_M_file_37 rfl ?_
    replace h := g_ob h; obtain ⟨x11, e_x11, h⟩ := h
    refine r_getI C f_M_76 d_M_file_38 e_x11 ?_
    refine r_iconst C (1 : Int32) d_M_file_41 (by decide) ?_
    refine r_iadd C d_M_file_42 ?_
    replace h := g_ob h; obtain ⟨V12, e_V12, h⟩ := h
    refine r_put C f_M_76 d_M_file_43 e_V12 (g_nI (x11 + (1 : Int32))).1 (g_nI (x11 + (1 : Int32))).2 ?_
    refine r_aload_n (x := (some h0)) C d_M_file_46 rfl rfl ?_
    replace h := g_ob h; obtain ⟨x13, e_x13, h⟩ := h
    refine r_getI C f_M_76 d_M_file_47 e_x13 ?_
    refine r_iconst C (1 : Int32) d_M_file_50 (by decide) ?_
    refine r_isub C d_M_file_51 ?_
    cases h
    exact r_iret C hr d_M_file_52
  · rw [if_pos c14] at h
    refine r_iconst C (-1 : Int32) d_M_file_14 (by decide) ?_
    cases h
    exact r_iret C hr d_M_file_15
theorem c_M_file (l : Launch) (E : gE) (base : Nat) (h0 : Nat) (p1 : Int64) (L : gL) (V : gV) {z : Int32 × gV} (h : D_M_file h0 p1 L V = some z) : g_Met l E base base y_M_file b_M_file 3 (some .int) rm_M_file [tR (some h0), tJ p1] L V (some (tI z.1)) L z.2 :=
  r_enter R_M (by decide) rfl [tR (some h0), tJ p1] [(0, tR (some h0)), (1, tJ p1)] rfl (Nat.le_of_ble_eq_true rfl) (fun p e s m args below meth c C hr hnm => t_M_file_0 C hr h0 p1 V h)
def rm_M_set : Room := { frames := 1, cells := 0, slots := 0, locals := 21 }
def D_M_set (h0 : Nat) (p1 : Int32) (p2 : Int32) (p3 : Int64) (L : gL) (V : gV) : Option (Int32 × gV) :=
  Option.bind (g_wr L V 4 h0 0 (tI (0 : Int32))) fun V1 =>
    Option.bind ((L).2 4 h0) fun n15 =>
    g_b2 (D_M_isFile h0 p1 L V1) fun r2 V3 =>
    (if r2 = 0 then
    some ((0 : Int32), V3)
  else
    Option.bind (g_rR L V3 4 h0 6) fun x4 =>
    Option.bind x4 fun a5 =>
    Option.bind (g_bz p2) fun _ =>
    Option.bind (g_wa L V3 102 a5 p1 (tI p2)) fun V6 =>
    Option.bind (g_rR L V6 4 h0 3) fun x7 =>
    (if p2 = 0 then
    Option.bind x7 fun a8 =>
    Option.bind (g_wa L V6 101 a8 p1 (tJ (0 : Int64))) fun V9 =>
    some ((1 : Int32), V9)
  else
    Option.bind x7 fun a10 =>
    Option.bind (g_wa L V6 101 a10 p1 (tJ p3)) fun V11 =>
    some ((1 : Int32), V11)))
set_option maxHeartbeats 4000000 in
set_option maxRecDepth 100000 in
theorem t_M_set_0 (C : gC E base p s m args meth c b_M_set R_M 5) (hr : meth.sig.returnType = (some .boolean)) {z : Int32 × gV} (h0 : Nat) (p1 : Int32) (p2 : Int32) (p3 : Int64) (V : gV) (h : D_M_set h0 p1 p2 p3 L V = some z) : vW E base base 5 p l e rm_M_set s m args below meth c 0 0 (g_MQ E base base below args s 0 0 L z.2 (some (tI z.1))) L V 0 [(0, tR (some h0)), (1, tI p1), (2, tI p2), (3, tJ p3)] [] := by
  unfold D_M_set at h
  refine r_aload_n (x := (some h0)) C d_M_set_0 rfl rfl ?_
  refine r_iconst C (0 : Int32) d_M_set_1 (by decide) ?_
  replace h := g_ob h; obtain ⟨V1, e_V1, h⟩ := h
  refine r_put C f_M_72 d_M_set_2 e_V1 (g_nI (0 : Int32)).1 (g_nI (0 : Int32)).2 ?_
  refine r_aload_n (x := (some h0)) C d_M_set_5 rfl rfl ?_
  refine r_iload_n (x := p1) C d_M_set_6 rfl rfl ?_
  replace h := g_ob h; obtain ⟨n15, e_n15, h⟩ := h
  replace h := g_o2 h; obtain ⟨r2, V3, e_r2, h⟩ := h
  refine r_callV (As := [tI p1]) C k_M_82 w_261 w_262 w_258 ⟨_, _, rfl⟩ (c_M_isFile l E base base h0 p1 L V1 e_r2) d_M_set_7 e_n15 rfl ⟨Nat.le_of_ble_eq_true rfl, Nat.le_of_ble_eq_true rfl⟩ (Nat.le_of_ble_eq_true rfl) (Nat.le_of_ble_eq_true rfl) (Nat.le_of_ble_eq_true rfl) rfl ?_
  refine r_if_ne C 15 d_M_set_10 (by decide) (fun c14 => ?_) (fun c14 => ?_)
  · rw [if_neg c14] at h
    refine r_aload_n (x := (some h0)) C d_M_set_15 rfl rfl ?_
    replace h := g_ob h; obtain ⟨x4, e_x4, h⟩ := h
    refine r_getR C f_M_19 d_M_set_16 e_x4 ?_
    refine r_iload_n (x := p1) C d_M_set_19 rfl rfl ?_
    refine r_iload_n (x := p2) C d_M_set_20 rfl rfl ?_
    replace h := g_ob h; obtain ⟨a5, rfl, h⟩ := h
    replace h := g_ob h; obtain ⟨u13, e_u13, h⟩ := h
    replace h := g_ob h; obtain ⟨V6, e_V6, h⟩ := h
    refine r_zast C ak_102 d_M_set_21 (g_bz_spec e_u13) e_V6 ?_
    refine r_aload_n (x := (some h0)) C d_M_set_22 rfl rfl ?_
    replace h := g_ob h; obtain ⟨x7, e_x7, h⟩ := h
    refine r_getR C f_M_7 d_M_set_23 e_x7 ?_
    refine r_iload_n (x := p1) C d_M_set_26 rfl rfl ?_
    refine r_iload_n (x := p2) C d_M_set_27 rfl rfl ?_
    refine r_if_eq C 35 d_M_set_28 (by decide) (fun c12 => ?_) (fun c12 => ?_)
    · rw [if_pos c12] at h
      refine r_lconst C (0 : Int64) d_M_set_35 (by decide) ?_
      replace h := g_ob h; obtain ⟨a8, rfl, h⟩ := h
      replace h := g_ob h; obtain ⟨V9, e_V9, h⟩ := h
      refine r_last C ak_101 d_M_set_36 e_V9 ?_
      refine r_iconst C (1 : Int32) d_M_set_37 (by decide) ?_
      cases h
      exact r_zret C hr d_M_set_38 (Or.inr rfl)
    · rw [if_neg c12] at h
      refine r_lload_n (x := p3) C d_M_set_31 rfl rfl ?_
      refine r_goto C 36 d_M_set_32 (by decide) ?_
      replace h := g_ob h; obtain ⟨a10, rfl, h⟩ := h
      replace h := g_ob h; obtain ⟨V11, e_V11, h⟩ := h
      refine r_last C ak_101 d_M_set_36 e_V11 ?_
      refine r_iconst C (1 : Int32) d_M_set_37 (by decide) ?_
      cases h
      exact r_zret C hr d_M_set_38 (Or.inr rfl)
  · rw [if_pos c14] at h
    refine r_iconst C (0 : Int32) d_M_set_13 (by decide) ?_
    cases h
    exact r_zret C hr d_M_set_14 (Or.inl rfl)
theorem c_M_set (l : Launch) (E : gE) (base : Nat) (h0 : Nat) (p1 : Int32) (p2 : Int32) (p3 : Int64) (L : gL) (V : gV) {z : Int32 × gV} (h : D_M_set h0 p1 p2 p3 L V = some z) : g_Met l E base base y_M_set b_M_set 5 (some .boolean) rm_M_set [tR (some h0), tI p1, tI p2, tJ p3] L V (some (tI z.1)) L z.2 :=
  r_enter R_M (by decide) rfl [tR (some h0), tI p1, tI p2, tJ p3] [(0, tR (some h0)), (1, tI p1), (2, tI p2), (3, tJ p3)] rfl (Nat.le_of_ble_eq_true rfl) (fun p e s m args below meth c C hr hnm => t_M_set_0 C hr h0 p1 p2 p3 V h)
def rm_M_touch : Room := { frames := 1, cells := 0, slots := 0, locals := 21 }
def D_M_touch (h0 : Nat) (p1 : Int32) (L : gL) (V : gV) : Option (Int32 × gV) :=
  Option.bind (g_wr L V 4 h0 0 (tI (0 : Int32))) fun V1 =>
    Option.bind ((L).2 4 h0) fun n12 =>
    g_b2 (D_M_isFile h0 p1 L V1) fun r2 V3 =>
    (if r2 = 0 then
    some ((-1 : Int32), V3)
  else
    Option.bind (g_rR L V3 4 h0 8) fun x4 =>
    Option.bind x4 fun a5 =>
    Option.bind (g_aI L V3 100 a5 p1) fun x6 =>
    Option.bind (g_wa L V3 100 a5 p1 (tI (x6 + (1 : Int32)))) fun V7 =>
    Option.bind (g_rR L V7 4 h0 8) fun x8 =>
    Option.bind x8 fun a9 =>
    Option.bind (g_aI L V7 100 a9 p1) fun x10 =>
    some (x10, V7))
set_option maxHeartbeats 4000000 in
set_option maxRecDepth 100000 in
theorem t_M_touch_0 (C : gC E base p s m args meth c b_M_touch R_M 2) (hr : meth.sig.returnType = (some .int)) {z : Int32 × gV} (h0 : Nat) (p1 : Int32) (V : gV) (h : D_M_touch h0 p1 L V = some z) : vW E base base 2 p l e rm_M_touch s m args below meth c 0 0 (g_MQ E base base below args s 0 0 L z.2 (some (tI z.1))) L V 0 [(0, tR (some h0)), (1, tI p1)] [] := by
  unfold D_M_touch at h
  refine r_aload_n (x := (some h0)) C d_M_touch_0 rfl rfl ?_
  refine r_iconst C (0 : Int32) d_M_touch_1 (by decide) ?_
  replace h := g_ob h; obtain ⟨V1, e_V1, h⟩ := h
  refine r_put C f_M_72 d_M_touch_2 e_V1 (g_nI (0 : Int32)).1 (g_nI (0 : Int32)).2 ?_
  refine r_aload_n (x := (some h0)) C d_M_touch_5 rfl rfl ?_
  refine r_iload_n (x := p1) C d_M_touch_6 rfl rfl ?_
  replace h := g_ob h; obtain ⟨n12, e_n12, h⟩ := h
  replace h := g_o2 h; obtain ⟨r2, V3, e_r2, h⟩ := h
  refine r_callV (As := [tI p1]) C k_M_82 w_261 w_262 w_258 ⟨_, _, rfl⟩ (c_M_isFile l E base base h0 p1 L V1 e_r2) d_M_touch_7 e_n12 rfl ⟨Nat.le_of_ble_eq_true rfl, Nat.le_of_ble_eq_true rfl⟩ (Nat.le_of_ble_eq_true rfl) (Nat.le_of_ble_eq_true rfl) (Nat.le_of_ble_eq_true rfl) rfl ?_
  refine r_if_ne C 15 d_M_touch_10 (by decide) (fun c11 => ?_) (fun c11 => ?_)
  · rw [if_neg c11] at h
    refine r_aload_n (x := (some h0)) C d_M_touch_15 rfl rfl ?_
    replace h := g_ob h; obtain ⟨x4, e_x4, h⟩ := h
    refine r_getR C f_M_26 d_M_touch_16 e_x4 ?_
    refine r_iload_n (x := p1) C d_M_touch_19 rfl rfl ?_
    refine r_dup2 C d_M_touch_20 rfl rfl ?_
    replace h := g_ob h; obtain ⟨a5, rfl, h⟩ := h
    replace h := g_ob h; obtain ⟨x6, e_x6, h⟩ := h
    refine r_iald C ak_100 d_M_touch_21 e_x6 ?_
    refine r_iconst C (1 : Int32) d_M_touch_22 (by decide) ?_
    refine r_iadd C d_M_touch_23 ?_
    replace h := g_ob h; obtain ⟨V7, e_V7, h⟩ := h
    refine r_iast C ak_100 d_M_touch_24 e_V7 ?_
    refine r_aload_n (x := (some h0)) C d_M_touch_25 rfl rfl ?_
    replace h := g_ob h; obtain ⟨x8, e_x8, h⟩ := h
    refine r_getR C f_M_26 d_M_touch_26 e_x8 ?_
    refine r_iload_n (x := p1) C d_M_touch_29 rfl rfl ?_
    replace h := g_ob h; obtain ⟨a9, rfl, h⟩ := h
    replace h := g_ob h; obtain ⟨x10, e_x10, h⟩ := h
    refine r_iald C ak_100 d_M_touch_30 e_x10 ?_
    cases h
    exact r_iret C hr d_M_touch_31
  · rw [if_pos c11] at h
    refine r_iconst C (-1 : Int32) d_M_touch_13 (by decide) ?_
    cases h
    exact r_iret C hr d_M_touch_14
theorem c_M_touch (l : Launch) (E : gE) (base : Nat) (h0 : Nat) (p1 : Int32) (L : gL) (V : gV) {z : Int32 × gV} (h : D_M_touch h0 p1 L V = some z) : g_Met l E base base y_M_touch b_M_touch 2 (some .int) rm_M_touch [tR (some h0), tI p1] L V (some (tI z.1)) L z.2 :=
  r_enter R_M (by decide) rfl [tR (some h0), tI p1] [(0, tR (some h0)), (1, tI p1)] rfl (Nat.le_of_ble_eq_true rfl) (fun p e s m args below meth c C hr hnm => t_M_touch_0 C hr h0 p1 V h)
def rm_M_step : Room := { frames := 0, cells := 0, slots := 0, locals := 0 }
def D_M_step (h0 : Nat) (p1 : Int64) (p3 : Int64) (L : gL) (V : gV) : Option (Int32 × gV) :=
  Option.bind (g_wr L V 4 h0 0 (tI (0 : Int32))) fun V1 =>
    Option.bind (g_rI L V1 4 h0 2) fun x2 =>
    (if x2 = (16 : Int32) then
    some ((-1 : Int32), V1)
  else
    (if 0 ≤ (lg_cmp p3 (0 : Int64)) then
    Option.bind (g_rR L V1 4 h0 4) fun x3 =>
    Option.bind (g_rI L V1 4 h0 2) fun x4 =>
    Option.bind x3 fun a5 =>
    Option.bind (g_wa L V1 101 a5 x4 (tJ p1)) fun V6 =>
    Option.bind (g_rR L V6 4 h0 5) fun x7 =>
    Option.bind (g_rI L V6 4 h0 2) fun x8 =>
    Option.bind x7 fun a9 =>
    Option.bind (g_wa L V6 101 a9 x8 (tJ p3)) fun V10 =>
    Option.bind (g_rI L V10 4 h0 2) fun x11 =>
    Option.bind (g_wr L V10 4 h0 2 (tI (x11 + (1 : Int32)))) fun V12 =>
    Option.bind (g_rI L V12 4 h0 2) fun x13 =>
    some (x13 - (1 : Int32), V12)
  else
    some ((-1 : Int32), V1)))
set_option maxHeartbeats 4000000 in
set_option maxRecDepth 100000 in
theorem t_M_step_0 (C : gC E base p s m args meth c b_M_step R_M 5) (hr : meth.sig.returnType = (some .int)) {z : Int32 × gV} (h0 : Nat) (p1 : Int64) (p3 : Int64) (V : gV) (h : D_M_step h0 p1 p3 L V = some z) : vW E base base 5 p l e rm_M_step s m args below meth c 0 0 (g_MQ E base base below args s 0 0 L z.2 (some (tI z.1))) L V 0 [(0, tR (some h0)), (1, tJ p1), (3, tJ p3)] [] := by
  unfold D_M_step at h
  refine r_aload_n (x := (some h0)) C d_M_step_0 rfl rfl ?_
  refine r_iconst C (0 : Int32) d_M_step_1 (by decide) ?_
  replace h := g_ob h; obtain ⟨V1, e_V1, h⟩ := h
  refine r_put C f_M_72 d_M_step_2 e_V1 (g_nI (0 : Int32)).1 (g_nI (0 : Int32)).2 ?_
  refine r_aload_n (x := (some h0)) C d_M_step_5 rfl rfl ?_
  replace h := g_ob h; obtain ⟨x2, e_x2, h⟩ := h
  refine r_getI C f_M_79 d_M_step_6 e_x2 ?_
  refine r_bipush C (16 : Int32) d_M_step_9 (by decide) ?_
  refine r_icmp_eq C 20 d_M_step_11 (by decide) (fun c15 => ?_) (fun c15 => ?_)
  · rw [if_pos c15] at h
    refine r_iconst C (-1 : Int32) d_M_step_20 (by decide) ?_
    cases h
    exact r_iret C hr d_M_step_21
  · rw [if_neg c15] at h
    refine r_lload_n (x := p3) C d_M_step_14 rfl rfl ?_
    refine r_lconst C (0 : Int64) d_M_step_15 (by decide) ?_
    refine r_lcmp C d_M_step_16 ?_
    refine r_if_ge C 22 d_M_step_17 (by decide) (fun c14 => ?_) (fun c14 => ?_)
    · rw [if_pos c14] at h
      refine r_aload_n (x := (some h0)) C d_M_step_22 rfl rfl ?_
      replace h := g_ob h; obtain ⟨x3, e_x3, h⟩ := h
      refine r_getR C f_M_13 d_M_step_23 e_x3 ?_
      refine r_aload_n (x := (some h0)) C d_M_step_26 rfl rfl ?_
      replace h := g_ob h; obtain ⟨x4, e_x4, h⟩ := h
      refine r_getI C f_M_79 d_M_step_27 e_x4 ?_
      refine r_lload_n (x := p1) C d_M_step_30 rfl rfl ?_
      replace h := g_ob h; obtain ⟨a5, rfl, h⟩ := h
      replace h := g_ob h; obtain ⟨V6, e_V6, h⟩ := h
      refine r_last C ak_101 d_M_step_31 e_V6 ?_
      refine r_aload_n (x := (some h0)) C d_M_step_32 rfl rfl ?_
      replace h := g_ob h; obtain ⟨x7, e_x7, h⟩ := h
      refine r_getR C f_M_16 d_M_step_33 e_x7 ?_
      refine r_aload_n (x := (some h0)) C d_M_step_36 rfl rfl ?_
      replace h := g_ob h; obtain ⟨x8, e_x8, h⟩ := h
      refine r_getI C f_M_79 d_M_step_37 e_x8 ?_
      refine r_lload_n (x := p3) C d_M_step_40 rfl rfl ?_
      replace h := g_ob h; obtain ⟨a9, rfl, h⟩ := h
      replace h := g_ob h; obtain ⟨V10, e_V10, h⟩ := h
      refine r_last C ak_101 d_M_step_41 e_V10 ?_
      refine r_aload_n (x := (some h0)) C d_M_step_42 rfl rfl ?_
      refine r_dup C d_M_step_43 rfl ?_
      replace h := g_ob h; obtain ⟨x11, e_x11, h⟩ := h
      refine r_getI C f_M_79 d_M_step_44 e_x11 ?_
      refine r_iconst C (1 : Int32) d_M_step_47 (by decide) ?_
      refine r_iadd C d_M_step_48 ?_
      replace h := g_ob h; obtain ⟨V12, e_V12, h⟩ := h
      refine r_put C f_M_79 d_M_step_49 e_V12 (g_nI (x11 + (1 : Int32))).1 (g_nI (x11 + (1 : Int32))).2 ?_
      refine r_aload_n (x := (some h0)) C d_M_step_52 rfl rfl ?_
      replace h := g_ob h; obtain ⟨x13, e_x13, h⟩ := h
      refine r_getI C f_M_79 d_M_step_53 e_x13 ?_
      refine r_iconst C (1 : Int32) d_M_step_56 (by decide) ?_
      refine r_isub C d_M_step_57 ?_
      cases h
      exact r_iret C hr d_M_step_58
    · rw [if_neg c14] at h
      refine r_iconst C (-1 : Int32) d_M_step_20 (by decide) ?_
      cases h
      exact r_iret C hr d_M_step_21
theorem c_M_step (l : Launch) (E : gE) (base : Nat) (h0 : Nat) (p1 : Int64) (p3 : Int64) (L : gL) (V : gV) {z : Int32 × gV} (h : D_M_step h0 p1 p3 L V = some z) : g_Met l E base base y_M_step b_M_step 5 (some .int) rm_M_step [tR (some h0), tJ p1, tJ p3] L V (some (tI z.1)) L z.2 :=
  r_enter R_M (by decide) rfl [tR (some h0), tJ p1, tJ p3] [(0, tR (some h0)), (1, tJ p1), (3, tJ p3)] rfl (Nat.le_of_ble_eq_true rfl) (fun p e s m args below meth c C hr hnm => t_M_step_0 C hr h0 p1 p3 V h)
def rm_M_more : Room := { frames := 0, cells := 0, slots := 0, locals := 0 }
def D_M_more_16 (L : gL) : Nat → Nat → Int32 → Int32 → Int32 → Int32 → gV → Option (Int32 × gV)
  | 0, _, _, _, _, _, _ => none
  | n + 1, v0, v1, v2, v3, v4, V =>
  Option.bind (g_rR L V 4 v0 9) fun x1 =>
    Option.bind x1 fun a2 =>
    Option.bind (g_aI L V 100 a2 v1) fun x3 =>
    (if x3 ≤ v4 then
    Option.bind (g_rR L V 4 v0 10) fun x4 =>
    Option.bind (g_rR L V 4 v0 9) fun x5 =>
    Option.bind x5 fun a6 =>
    Option.bind (g_aI L V 100 a6 v1) fun x7 =>
    Option.bind x4 fun a8 =>
    Option.bind (g_wa L V 100 a8 (((6 : Int32) * v1) + x7) (tI v2)) fun V9 =>
    Option.bind (g_rR L V9 4 v0 11) fun x10 =>
    Option.bind (g_rR L V9 4 v0 9) fun x11 =>
    Option.bind x11 fun a12 =>
    Option.bind (g_aI L V9 100 a12 v1) fun x13 =>
    Option.bind x10 fun a14 =>
    Option.bind (g_wa L V9 100 a14 (((6 : Int32) * v1) + x13) (tI v3)) fun V15 =>
    Option.bind (g_rR L V15 4 v0 9) fun x16 =>
    Option.bind x16 fun a17 =>
    Option.bind (g_aI L V15 100 a17 v1) fun x18 =>
    Option.bind (g_wa L V15 100 a17 v1 (tI (x18 + (1 : Int32)))) fun V19 =>
    Option.bind (g_rR L V19 4 v0 12) fun x20 =>
    Option.bind x20 fun a21 =>
    Option.bind (g_wa L V19 100 a21 v1 (tI (0 : Int32))) fun V22 =>
    some ((1 : Int32), V22)
  else
    Option.bind (g_rR L V 4 v0 10) fun x23 =>
    Option.bind x23 fun a24 =>
    Option.bind (g_aI L V 100 a24 (((6 : Int32) * v1) + v4)) fun x25 =>
    (if x25 = v2 then
    Option.bind (g_rR L V 4 v0 11) fun x26 =>
    Option.bind x26 fun a27 =>
    Option.bind (g_aI L V 100 a27 (((6 : Int32) * v1) + v4)) fun x28 =>
    (if x28 = v3 then
    some ((0 : Int32), V)
  else
    D_M_more_16 L  n v0 v1 v2 v3 (v4 + (1 : Int32)) V)
  else
    D_M_more_16 L  n v0 v1 v2 v3 (v4 + (1 : Int32)) V))
def D_M_more (h0 : Nat) (p1 : Int32) (p2 : Int32) (p3 : Int32) (L : gL) (V : gV) : Option (Int32 × gV) :=
  Option.bind (g_rR L V 4 h0 9) fun x1 =>
    Option.bind x1 fun a2 =>
    Option.bind (g_aI L V 100 a2 p1) fun x3 =>
    (if x3 = (6 : Int32) then
    some ((0 : Int32), V)
  else
    D_M_more_16 L  1000 h0 p1 p2 p3 (0 : Int32) V)
set_option maxHeartbeats 4000000 in
set_option maxRecDepth 100000 in
theorem t_M_more_16 (C : gC E base p s m args meth c b_M_more R_M 5) (hr : meth.sig.returnType = (some .boolean)) {z : Int32 × gV} : ∀ (n : Nat) (v0 : Nat) (v1 : Int32) (v2 : Int32) (v3 : Int32) (v4 : Int32) (V : gV), D_M_more_16 L  n v0 v1 v2 v3 v4 V = some z → vW E base base 5 p l e rm_M_more s m args below meth c 0 0 (g_MQ E base base below args s 0 0 L z.2 (some (tI z.1))) L V 16 [(0, tR (some v0)), (1, tI v1), (2, tI v2), (3, tI v3), (4, tI v4)] [] := by
  intro n
  induction n with
  | zero =>
    intro v0 v1 v2 v3 v4 V h
    rw [D_M_more_16] at h
    cases h
  | succ n ih =>
    intro v0 v1 v2 v3 v4 V h
    rw [D_M_more_16] at h
    refine r_iload (x := v4) C d_M_more_16 rfl ?_
    refine r_aload_n (x := (some v0)) C d_M_more_18 rfl rfl ?_
    replace h := g_ob h; obtain ⟨x1, e_x1, h⟩ := h
    refine r_getR C f_M_30 d_M_more_19 e_x1 ?_
    refine r_iload_n (x := v1) C d_M_more_22 rfl rfl ?_
    replace h := g_ob h; obtain ⟨a2, rfl, h⟩ := h
    replace h := g_ob h; obtain ⟨x3, e_x3, h⟩ := h
    refine r_iald C ak_100 d_M_more_23 e_x3 ?_
    refine r_icmp_ge C 67 d_M_more_24 (by decide) (fun c31 => ?_) (fun c31 => ?_)
    · rw [if_pos c31] at h
      refine r_aload_n (x := (some v0)) C d_M_more_67 rfl rfl ?_
      replace h := g_ob h; obtain ⟨x4, e_x4, h⟩ := h
      refine r_getR C f_M_33 d_M_more_68 e_x4 ?_
      refine r_bipush C (6 : Int32) d_M_more_71 (by decide) ?_
      refine r_iload_n (x := v1) C d_M_more_73 rfl rfl ?_
      refine r_imul C d_M_more_74 ?_
      refine r_aload_n (x := (some v0)) C d_M_more_75 rfl rfl ?_
      replace h := g_ob h; obtain ⟨x5, e_x5, h⟩ := h
      refine r_getR C f_M_30 d_M_more_76 e_x5 ?_
      refine r_iload_n (x := v1) C d_M_more_79 rfl rfl ?_
      replace h := g_ob h; obtain ⟨a6, rfl, h⟩ := h
      replace h := g_ob h; obtain ⟨x7, e_x7, h⟩ := h
      refine r_iald C ak_100 d_M_more_80 e_x7 ?_
      refine r_iadd C d_M_more_81 ?_
      refine r_iload_n (x := v2) C d_M_more_82 rfl rfl ?_
      replace h := g_ob h; obtain ⟨a8, rfl, h⟩ := h
      replace h := g_ob h; obtain ⟨V9, e_V9, h⟩ := h
      refine r_iast C ak_100 d_M_more_83 e_V9 ?_
      refine r_aload_n (x := (some v0)) C d_M_more_84 rfl rfl ?_
      replace h := g_ob h; obtain ⟨x10, e_x10, h⟩ := h
      refine r_getR C f_M_36 d_M_more_85 e_x10 ?_
      refine r_bipush C (6 : Int32) d_M_more_88 (by decide) ?_
      refine r_iload_n (x := v1) C d_M_more_90 rfl rfl ?_
      refine r_imul C d_M_more_91 ?_
      refine r_aload_n (x := (some v0)) C d_M_more_92 rfl rfl ?_
      replace h := g_ob h; obtain ⟨x11, e_x11, h⟩ := h
      refine r_getR C f_M_30 d_M_more_93 e_x11 ?_
      refine r_iload_n (x := v1) C d_M_more_96 rfl rfl ?_
      replace h := g_ob h; obtain ⟨a12, rfl, h⟩ := h
      replace h := g_ob h; obtain ⟨x13, e_x13, h⟩ := h
      refine r_iald C ak_100 d_M_more_97 e_x13 ?_
      refine r_iadd C d_M_more_98 ?_
      refine r_iload_n (x := v3) C d_M_more_99 rfl rfl ?_
      replace h := g_ob h; obtain ⟨a14, rfl, h⟩ := h
      replace h := g_ob h; obtain ⟨V15, e_V15, h⟩ := h
      refine r_iast C ak_100 d_M_more_100 e_V15 ?_
      refine r_aload_n (x := (some v0)) C d_M_more_101 rfl rfl ?_
      replace h := g_ob h; obtain ⟨x16, e_x16, h⟩ := h
      refine r_getR C f_M_30 d_M_more_102 e_x16 ?_
      refine r_iload_n (x := v1) C d_M_more_105 rfl rfl ?_
      refine r_dup2 C d_M_more_106 rfl rfl ?_
      replace h := g_ob h; obtain ⟨a17, rfl, h⟩ := h
      replace h := g_ob h; obtain ⟨x18, e_x18, h⟩ := h
      refine r_iald C ak_100 d_M_more_107 e_x18 ?_
      refine r_iconst C (1 : Int32) d_M_more_108 (by decide) ?_
      refine r_iadd C d_M_more_109 ?_
      replace h := g_ob h; obtain ⟨V19, e_V19, h⟩ := h
      refine r_iast C ak_100 d_M_more_110 e_V19 ?_
      refine r_aload_n (x := (some v0)) C d_M_more_111 rfl rfl ?_
      replace h := g_ob h; obtain ⟨x20, e_x20, h⟩ := h
      refine r_getR C f_M_39 d_M_more_112 e_x20 ?_
      refine r_iload_n (x := v1) C d_M_more_115 rfl rfl ?_
      refine r_iconst C (0 : Int32) d_M_more_116 (by decide) ?_
      replace h := g_ob h; obtain ⟨a21, rfl, h⟩ := h
      replace h := g_ob h; obtain ⟨V22, e_V22, h⟩ := h
      refine r_iast C ak_100 d_M_more_117 e_V22 ?_
      refine r_iconst C (1 : Int32) d_M_more_118 (by decide) ?_
      cases h
      exact r_zret C hr d_M_more_119 (Or.inr rfl)
    · rw [if_neg c31] at h
      refine r_aload_n (x := (some v0)) C d_M_more_27 rfl rfl ?_
      replace h := g_ob h; obtain ⟨x23, e_x23, h⟩ := h
      refine r_getR C f_M_33 d_M_more_28 e_x23 ?_
      refine r_bipush C (6 : Int32) d_M_more_31 (by decide) ?_
      refine r_iload_n (x := v1) C d_M_more_33 rfl rfl ?_
      refine r_imul C d_M_more_34 ?_
      refine r_iload (x := v4) C d_M_more_35 rfl ?_
      refine r_iadd C d_M_more_37 ?_
      replace h := g_ob h; obtain ⟨a24, rfl, h⟩ := h
      replace h := g_ob h; obtain ⟨x25, e_x25, h⟩ := h
      refine r_iald C ak_100 d_M_more_38 e_x25 ?_
      refine r_iload_n (x := v2) C d_M_more_39 rfl rfl ?_
      refine r_icmp_ne C 61 d_M_more_40 (by decide) (fun c30 => ?_) (fun c30 => ?_)
      · rw [if_neg c30] at h
        refine r_iinc (x := v4) (v := v4 + (1 : Int32)) (lv' := [(4, tI (v4 + (1 : Int32))), (0, tR (some v0)), (1, tI v1), (2, tI v2), (3, tI v3)]) C d_M_more_61 rfl rfl (by decide) rfl ?_
        refine r_goto C 16 d_M_more_64 (by decide) ?_
        refine r_lv [1, 2, 3, 4, 0] rfl ?_
        exact ih v0 v1 v2 v3 (v4 + (1 : Int32)) V h
      · rw [if_pos c30] at h
        refine r_aload_n (x := (some v0)) C d_M_more_43 rfl rfl ?_
        replace h := g_ob h; obtain ⟨x26, e_x26, h⟩ := h
        refine r_getR C f_M_36 d_M_more_44 e_x26 ?_
        refine r_bipush C (6 : Int32) d_M_more_47 (by decide) ?_
        refine r_iload_n (x := v1) C d_M_more_49 rfl rfl ?_
        refine r_imul C d_M_more_50 ?_
        refine r_iload (x := v4) C d_M_more_51 rfl ?_
        refine r_iadd C d_M_more_53 ?_
        replace h := g_ob h; obtain ⟨a27, rfl, h⟩ := h
        replace h := g_ob h; obtain ⟨x28, e_x28, h⟩ := h
        refine r_iald C ak_100 d_M_more_54 e_x28 ?_
        refine r_iload_n (x := v3) C d_M_more_55 rfl rfl ?_
        refine r_icmp_ne C 61 d_M_more_56 (by decide) (fun c29 => ?_) (fun c29 => ?_)
        · rw [if_neg c29] at h
          refine r_iinc (x := v4) (v := v4 + (1 : Int32)) (lv' := [(4, tI (v4 + (1 : Int32))), (0, tR (some v0)), (1, tI v1), (2, tI v2), (3, tI v3)]) C d_M_more_61 rfl rfl (by decide) rfl ?_
          refine r_goto C 16 d_M_more_64 (by decide) ?_
          refine r_lv [1, 2, 3, 4, 0] rfl ?_
          exact ih v0 v1 v2 v3 (v4 + (1 : Int32)) V h
        · rw [if_pos c29] at h
          refine r_iconst C (0 : Int32) d_M_more_59 (by decide) ?_
          cases h
          exact r_zret C hr d_M_more_60 (Or.inl rfl)
set_option maxHeartbeats 4000000 in
set_option maxRecDepth 100000 in
theorem t_M_more_0 (C : gC E base p s m args meth c b_M_more R_M 5) (hr : meth.sig.returnType = (some .boolean)) {z : Int32 × gV} (h0 : Nat) (p1 : Int32) (p2 : Int32) (p3 : Int32) (V : gV) (h : D_M_more h0 p1 p2 p3 L V = some z) : vW E base base 5 p l e rm_M_more s m args below meth c 0 0 (g_MQ E base base below args s 0 0 L z.2 (some (tI z.1))) L V 0 [(0, tR (some h0)), (1, tI p1), (2, tI p2), (3, tI p3)] [] := by
  unfold D_M_more at h
  refine r_aload_n (x := (some h0)) C d_M_more_0 rfl rfl ?_
  replace h := g_ob h; obtain ⟨x1, e_x1, h⟩ := h
  refine r_getR C f_M_30 d_M_more_1 e_x1 ?_
  refine r_iload_n (x := p1) C d_M_more_4 rfl rfl ?_
  replace h := g_ob h; obtain ⟨a2, rfl, h⟩ := h
  replace h := g_ob h; obtain ⟨x3, e_x3, h⟩ := h
  refine r_iald C ak_100 d_M_more_5 e_x3 ?_
  refine r_bipush C (6 : Int32) d_M_more_6 (by decide) ?_
  refine r_icmp_ne C 13 d_M_more_8 (by decide) (fun c4 => ?_) (fun c4 => ?_)
  · rw [if_neg c4] at h
    refine r_iconst C (0 : Int32) d_M_more_13 (by decide) ?_
    refine r_istore (lv' := [(4, tI (0 : Int32)), (0, tR (some h0)), (1, tI p1), (2, tI p2), (3, tI p3)]) C d_M_more_14 (by decide) rfl ?_
    refine r_lv [1, 2, 3, 4, 0] rfl ?_
    exact t_M_more_16 C hr  1000 h0 p1 p2 p3 (0 : Int32) V h
  · rw [if_pos c4] at h
    refine r_iconst C (0 : Int32) d_M_more_11 (by decide) ?_
    cases h
    exact r_zret C hr d_M_more_12 (Or.inl rfl)
theorem c_M_more (l : Launch) (E : gE) (base : Nat) (h0 : Nat) (p1 : Int32) (p2 : Int32) (p3 : Int32) (L : gL) (V : gV) {z : Int32 × gV} (h : D_M_more h0 p1 p2 p3 L V = some z) : g_Met l E base base y_M_more b_M_more 5 (some .boolean) rm_M_more [tR (some h0), tI p1, tI p2, tI p3] L V (some (tI z.1)) L z.2 :=
  r_enter R_M (by decide) rfl [tR (some h0), tI p1, tI p2, tI p3] [(0, tR (some h0)), (1, tI p1), (2, tI p2), (3, tI p3)] rfl (Nat.le_of_ble_eq_true rfl) (fun p e s m args below meth c C hr hnm => t_M_more_0 C hr h0 p1 p2 p3 V h)
def rm_M_readsFile : Room := { frames := 1, cells := 0, slots := 0, locals := 24 }
def D_M_readsFile (h0 : Nat) (p1 : Int32) (p2 : Int32) (L : gL) (V : gV) : Option (Int32 × gV) :=
  Option.bind (g_wr L V 4 h0 0 (tI (0 : Int32))) fun V1 =>
    Option.bind ((L).2 4 h0) fun n13 =>
    g_b2 (D_M_isStep h0 p1 L V1) fun r2 V3 =>
    (if r2 = 0 then
    some ((0 : Int32), V3)
  else
    Option.bind ((L).2 4 h0) fun n11 =>
    g_b2 (D_M_isFile h0 p2 L V3) fun r4 V5 =>
    (if r4 = 0 then
    some ((0 : Int32), V5)
  else
    Option.bind ((L).2 4 h0) fun n9 =>
    g_b2 (D_M_more h0 p1 p2 (2 : Int32) L V5) fun r6 V7 =>
    (if r6 = 0 then
    some ((0 : Int32), V7)
  else
    some ((1 : Int32), V7))))
set_option maxHeartbeats 4000000 in
set_option maxRecDepth 100000 in
theorem t_M_readsFile_0 (C : gC E base p s m args meth c b_M_readsFile R_M 3) (hr : meth.sig.returnType = (some .boolean)) {z : Int32 × gV} (h0 : Nat) (p1 : Int32) (p2 : Int32) (V : gV) (h : D_M_readsFile h0 p1 p2 L V = some z) : vW E base base 3 p l e rm_M_readsFile s m args below meth c 0 0 (g_MQ E base base below args s 0 0 L z.2 (some (tI z.1))) L V 0 [(0, tR (some h0)), (1, tI p1), (2, tI p2)] [] := by
  unfold D_M_readsFile at h
  refine r_aload_n (x := (some h0)) C d_M_readsFile_0 rfl rfl ?_
  refine r_iconst C (0 : Int32) d_M_readsFile_1 (by decide) ?_
  replace h := g_ob h; obtain ⟨V1, e_V1, h⟩ := h
  refine r_put C f_M_72 d_M_readsFile_2 e_V1 (g_nI (0 : Int32)).1 (g_nI (0 : Int32)).2 ?_
  refine r_aload_n (x := (some h0)) C d_M_readsFile_5 rfl rfl ?_
  refine r_iload_n (x := p1) C d_M_readsFile_6 rfl rfl ?_
  replace h := g_ob h; obtain ⟨n13, e_n13, h⟩ := h
  replace h := g_o2 h; obtain ⟨r2, V3, e_r2, h⟩ := h
  refine r_callV (As := [tI p1]) C k_M_86 w_269 w_270 w_263 ⟨_, _, rfl⟩ (c_M_isStep l E base base h0 p1 L V1 e_r2) d_M_readsFile_7 e_n13 rfl ⟨Nat.le_of_ble_eq_true rfl, Nat.le_of_ble_eq_true rfl⟩ (Nat.le_of_ble_eq_true rfl) (Nat.le_of_ble_eq_true rfl) (Nat.le_of_ble_eq_true rfl) rfl ?_
  refine r_if_eq C 35 d_M_readsFile_10 (by decide) (fun c12 => ?_) (fun c12 => ?_)
  · rw [if_pos c12] at h
    refine r_iconst C (0 : Int32) d_M_readsFile_35 (by decide) ?_
    cases h
    exact r_zret C hr d_M_readsFile_36 (Or.inl rfl)
  · rw [if_neg c12] at h
    refine r_aload_n (x := (some h0)) C d_M_readsFile_13 rfl rfl ?_
    refine r_iload_n (x := p2) C d_M_readsFile_14 rfl rfl ?_
    replace h := g_ob h; obtain ⟨n11, e_n11, h⟩ := h
    replace h := g_o2 h; obtain ⟨r4, V5, e_r4, h⟩ := h
    refine r_callV (As := [tI p2]) C k_M_82 w_261 w_262 w_258 ⟨_, _, rfl⟩ (c_M_isFile l E base base h0 p2 L V3 e_r4) d_M_readsFile_15 e_n11 rfl ⟨Nat.le_of_ble_eq_true rfl, Nat.le_of_ble_eq_true rfl⟩ (Nat.le_of_ble_eq_true rfl) (Nat.le_of_ble_eq_true rfl) (Nat.le_of_ble_eq_true rfl) rfl ?_
    refine r_if_eq C 35 d_M_readsFile_18 (by decide) (fun c10 => ?_) (fun c10 => ?_)
    · rw [if_pos c10] at h
      refine r_iconst C (0 : Int32) d_M_readsFile_35 (by decide) ?_
      cases h
      exact r_zret C hr d_M_readsFile_36 (Or.inl rfl)
    · rw [if_neg c10] at h
      refine r_aload_n (x := (some h0)) C d_M_readsFile_21 rfl rfl ?_
      refine r_iload_n (x := p1) C d_M_readsFile_22 rfl rfl ?_
      refine r_iload_n (x := p2) C d_M_readsFile_23 rfl rfl ?_
      refine r_iconst C (2 : Int32) d_M_readsFile_24 (by decide) ?_
      replace h := g_ob h; obtain ⟨n9, e_n9, h⟩ := h
      replace h := g_o2 h; obtain ⟨r6, V7, e_r6, h⟩ := h
      refine r_callV (As := [tI p1, tI p2, tI (2 : Int32)]) C k_M_89 w_267 w_268 w_265 ⟨_, _, rfl⟩ (c_M_more l E base h0 p1 p2 (2 : Int32) L V5 e_r6) d_M_readsFile_25 e_n9 rfl ⟨Nat.le_of_ble_eq_true rfl, Nat.le_of_ble_eq_true rfl⟩ (Nat.le_of_ble_eq_true rfl) (Nat.le_of_ble_eq_true rfl) (Nat.le_of_ble_eq_true rfl) rfl ?_
      refine r_if_eq C 35 d_M_readsFile_28 (by decide) (fun c8 => ?_) (fun c8 => ?_)
      · rw [if_pos c8] at h
        refine r_iconst C (0 : Int32) d_M_readsFile_35 (by decide) ?_
        cases h
        exact r_zret C hr d_M_readsFile_36 (Or.inl rfl)
      · rw [if_neg c8] at h
        refine r_iconst C (1 : Int32) d_M_readsFile_31 (by decide) ?_
        refine r_goto C 36 d_M_readsFile_32 (by decide) ?_
        cases h
        exact r_zret C hr d_M_readsFile_36 (Or.inr rfl)
theorem c_M_readsFile (l : Launch) (E : gE) (base : Nat) (h0 : Nat) (p1 : Int32) (p2 : Int32) (L : gL) (V : gV) {z : Int32 × gV} (h : D_M_readsFile h0 p1 p2 L V = some z) : g_Met l E base base y_M_readsFile b_M_readsFile 3 (some .boolean) rm_M_readsFile [tR (some h0), tI p1, tI p2] L V (some (tI z.1)) L z.2 :=
  r_enter R_M (by decide) rfl [tR (some h0), tI p1, tI p2] [(0, tR (some h0)), (1, tI p1), (2, tI p2)] rfl (Nat.le_of_ble_eq_true rfl) (fun p e s m args below meth c C hr hnm => t_M_readsFile_0 C hr h0 p1 p2 V h)
def rm_M_readsPart : Room := { frames := 1, cells := 0, slots := 0, locals := 24 }
def D_M_readsPart_31 (L : gL) (v0 : Nat) (v1 : Int32) (v2 : Int32) (v3 : Int32) (V : gV) : Option (Int32 × gV) :=
  Option.bind ((L).2 4 v0) fun n4 =>
    g_b2 (D_M_more v0 v1 v2 v3 L V) fun r1 V2 =>
    (if r1 = 0 then
    some ((0 : Int32), V2)
  else
    some ((1 : Int32), V2))
def D_M_readsPart (h0 : Nat) (p1 : Int32) (p2 : Int32) (p3 : Int32) (L : gL) (V : gV) : Option (Int32 × gV) :=
  Option.bind (g_wr L V 4 h0 0 (tI (0 : Int32))) fun V1 =>
    Option.bind ((L).2 4 h0) fun n9 =>
    g_b2 (D_M_isStep h0 p1 L V1) fun r2 V3 =>
    (if r2 = 0 then
    some ((0 : Int32), V3)
  else
    (if p2 < 0 then
    some ((0 : Int32), V3)
  else
    (if p1 ≤ p2 then
    some ((0 : Int32), V3)
  else
    (if p3 = 0 then
    D_M_readsPart_31 L  h0 p1 p2 p3 V3
  else
    (if p3 = (1 : Int32) then
    D_M_readsPart_31 L  h0 p1 p2 p3 V3
  else
    some ((0 : Int32), V3))))))
set_option maxHeartbeats 4000000 in
set_option maxRecDepth 100000 in
theorem t_M_readsPart_31 (C : gC E base p s m args meth c b_M_readsPart R_M 4) (hr : meth.sig.returnType = (some .boolean)) {z : Int32 × gV} (v0 : Nat) (v1 : Int32) (v2 : Int32) (v3 : Int32) (V : gV) (h : D_M_readsPart_31 L  v0 v1 v2 v3 V = some z) : vW E base base 4 p l e rm_M_readsPart s m args below meth c 0 0 (g_MQ E base base below args s 0 0 L z.2 (some (tI z.1))) L V 31 [(0, tR (some v0)), (1, tI v1), (2, tI v2), (3, tI v3)] [] := by
  unfold D_M_readsPart_31 at h
  refine r_aload_n (x := (some v0)) C d_M_readsPart_31 rfl rfl ?_
  refine r_iload_n (x := v1) C d_M_readsPart_32 rfl rfl ?_
  refine r_iload_n (x := v2) C d_M_readsPart_33 rfl rfl ?_
  refine r_iload_n (x := v3) C d_M_readsPart_34 rfl rfl ?_
  replace h := g_ob h; obtain ⟨n4, e_n4, h⟩ := h
  replace h := g_o2 h; obtain ⟨r1, V2, e_r1, h⟩ := h
  refine r_callV (As := [tI v1, tI v2, tI v3]) C k_M_89 w_267 w_268 w_265 ⟨_, _, rfl⟩ (c_M_more l E base v0 v1 v2 v3 L V e_r1) d_M_readsPart_35 e_n4 rfl ⟨Nat.le_of_ble_eq_true rfl, Nat.le_of_ble_eq_true rfl⟩ (Nat.le_of_ble_eq_true rfl) (Nat.le_of_ble_eq_true rfl) (Nat.le_of_ble_eq_true rfl) rfl ?_
  refine r_if_eq C 45 d_M_readsPart_38 (by decide) (fun c3 => ?_) (fun c3 => ?_)
  · rw [if_pos c3] at h
    refine r_iconst C (0 : Int32) d_M_readsPart_45 (by decide) ?_
    cases h
    exact r_zret C hr d_M_readsPart_46 (Or.inl rfl)
  · rw [if_neg c3] at h
    refine r_iconst C (1 : Int32) d_M_readsPart_41 (by decide) ?_
    refine r_goto C 46 d_M_readsPart_42 (by decide) ?_
    cases h
    exact r_zret C hr d_M_readsPart_46 (Or.inr rfl)
set_option maxHeartbeats 4000000 in
set_option maxRecDepth 100000 in
theorem t_M_readsPart_0 (C : gC E base p s m args meth c b_M_readsPart R_M 4) (hr : meth.sig.returnType = (some .boolean)) {z : Int32 × gV} (h0 : Nat) (p1 : Int32) (p2 : Int32) (p3 : Int32) (V : gV) (h : D_M_readsPart h0 p1 p2 p3 L V = some z) : vW E base base 4 p l e rm_M_readsPart s m args below meth c 0 0 (g_MQ E base base below args s 0 0 L z.2 (some (tI z.1))) L V 0 [(0, tR (some h0)), (1, tI p1), (2, tI p2), (3, tI p3)] [] := by
  unfold D_M_readsPart at h
  refine r_aload_n (x := (some h0)) C d_M_readsPart_0 rfl rfl ?_
  refine r_iconst C (0 : Int32) d_M_readsPart_1 (by decide) ?_
  replace h := g_ob h; obtain ⟨V1, e_V1, h⟩ := h
  refine r_put C f_M_72 d_M_readsPart_2 e_V1 (g_nI (0 : Int32)).1 (g_nI (0 : Int32)).2 ?_
  refine r_aload_n (x := (some h0)) C d_M_readsPart_5 rfl rfl ?_
  refine r_iload_n (x := p1) C d_M_readsPart_6 rfl rfl ?_
  replace h := g_ob h; obtain ⟨n9, e_n9, h⟩ := h
  replace h := g_o2 h; obtain ⟨r2, V3, e_r2, h⟩ := h
  refine r_callV (As := [tI p1]) C k_M_86 w_269 w_270 w_263 ⟨_, _, rfl⟩ (c_M_isStep l E base base h0 p1 L V1 e_r2) d_M_readsPart_7 e_n9 rfl ⟨Nat.le_of_ble_eq_true rfl, Nat.le_of_ble_eq_true rfl⟩ (Nat.le_of_ble_eq_true rfl) (Nat.le_of_ble_eq_true rfl) (Nat.le_of_ble_eq_true rfl) rfl ?_
  refine r_if_eq C 45 d_M_readsPart_10 (by decide) (fun c8 => ?_) (fun c8 => ?_)
  · rw [if_pos c8] at h
    refine r_iconst C (0 : Int32) d_M_readsPart_45 (by decide) ?_
    cases h
    exact r_zret C hr d_M_readsPart_46 (Or.inl rfl)
  · rw [if_neg c8] at h
    refine r_iload_n (x := p2) C d_M_readsPart_13 rfl rfl ?_
    refine r_if_lt C 45 d_M_readsPart_14 (by decide) (fun c7 => ?_) (fun c7 => ?_)
    · rw [if_pos c7] at h
      refine r_iconst C (0 : Int32) d_M_readsPart_45 (by decide) ?_
      cases h
      exact r_zret C hr d_M_readsPart_46 (Or.inl rfl)
    · rw [if_neg c7] at h
      refine r_iload_n (x := p2) C d_M_readsPart_17 rfl rfl ?_
      refine r_iload_n (x := p1) C d_M_readsPart_18 rfl rfl ?_
      refine r_icmp_ge C 45 d_M_readsPart_19 (by decide) (fun c6 => ?_) (fun c6 => ?_)
      · rw [if_pos c6] at h
        refine r_iconst C (0 : Int32) d_M_readsPart_45 (by decide) ?_
        cases h
        exact r_zret C hr d_M_readsPart_46 (Or.inl rfl)
      · rw [if_neg c6] at h
        refine r_iload_n (x := p3) C d_M_readsPart_22 rfl rfl ?_
        refine r_if_eq C 31 d_M_readsPart_23 (by decide) (fun c5 => ?_) (fun c5 => ?_)
        · rw [if_pos c5] at h
          exact t_M_readsPart_31 C hr  h0 p1 p2 p3 V3 h
        · rw [if_neg c5] at h
          refine r_iload_n (x := p3) C d_M_readsPart_26 rfl rfl ?_
          refine r_iconst C (1 : Int32) d_M_readsPart_27 (by decide) ?_
          refine r_icmp_ne C 45 d_M_readsPart_28 (by decide) (fun c4 => ?_) (fun c4 => ?_)
          · rw [if_neg c4] at h
            refine r_iconst C (0 : Int32) d_M_readsPart_45 (by decide) ?_
            cases h
            exact r_zret C hr d_M_readsPart_46 (Or.inl rfl)
          · rw [if_pos c4] at h
            exact t_M_readsPart_31 C hr  h0 p1 p2 p3 V3 h
theorem c_M_readsPart (l : Launch) (E : gE) (base : Nat) (h0 : Nat) (p1 : Int32) (p2 : Int32) (p3 : Int32) (L : gL) (V : gV) {z : Int32 × gV} (h : D_M_readsPart h0 p1 p2 p3 L V = some z) : g_Met l E base base y_M_readsPart b_M_readsPart 4 (some .boolean) rm_M_readsPart [tR (some h0), tI p1, tI p2, tI p3] L V (some (tI z.1)) L z.2 :=
  r_enter R_M (by decide) rfl [tR (some h0), tI p1, tI p2, tI p3] [(0, tR (some h0)), (1, tI p1), (2, tI p2), (3, tI p3)] rfl (Nat.le_of_ble_eq_true rfl) (fun p e s m args below meth c C hr hnm => t_M_readsPart_0 C hr h0 p1 p2 p3 V h)
def rm_M_force : Room := { frames := 1, cells := 0, slots := 0, locals := 21 }
def D_M_force (h0 : Nat) (p1 : Int32) (L : gL) (V : gV) : Option (Int32 × gV) :=
  Option.bind (g_wr L V 4 h0 0 (tI (0 : Int32))) fun V1 =>
    Option.bind ((L).2 4 h0) fun n12 =>
    g_b2 (D_M_isStep h0 p1 L V1) fun r2 V3 =>
    (if r2 = 0 then
    some ((0 : Int32), V3)
  else
    Option.bind (g_rR L V3 4 h0 7) fun x4 =>
    Option.bind x4 fun a5 =>
    Option.bind (g_aI L V3 102 a5 p1) fun x6 =>
    (if x6 = 0 then
    Option.bind (g_rR L V3 4 h0 7) fun x7 =>
    Option.bind x7 fun a8 =>
    Option.bind (g_wa L V3 102 a8 p1 (tI (1 : Int32))) fun V9 =>
    some ((1 : Int32), V9)
  else
    some ((0 : Int32), V3)))
set_option maxHeartbeats 4000000 in
set_option maxRecDepth 100000 in
theorem t_M_force_0 (C : gC E base p s m args meth c b_M_force R_M 2) (hr : meth.sig.returnType = (some .boolean)) {z : Int32 × gV} (h0 : Nat) (p1 : Int32) (V : gV) (h : D_M_force h0 p1 L V = some z) : vW E base base 2 p l e rm_M_force s m args below meth c 0 0 (g_MQ E base base below args s 0 0 L z.2 (some (tI z.1))) L V 0 [(0, tR (some h0)), (1, tI p1)] [] := by
  unfold D_M_force at h
  refine r_aload_n (x := (some h0)) C d_M_force_0 rfl rfl ?_
  refine r_iconst C (0 : Int32) d_M_force_1 (by decide) ?_
  replace h := g_ob h; obtain ⟨V1, e_V1, h⟩ := h
  refine r_put C f_M_72 d_M_force_2 e_V1 (g_nI (0 : Int32)).1 (g_nI (0 : Int32)).2 ?_
  refine r_aload_n (x := (some h0)) C d_M_force_5 rfl rfl ?_
  refine r_iload_n (x := p1) C d_M_force_6 rfl rfl ?_
  replace h := g_ob h; obtain ⟨n12, e_n12, h⟩ := h
  replace h := g_o2 h; obtain ⟨r2, V3, e_r2, h⟩ := h
  refine r_callV (As := [tI p1]) C k_M_86 w_269 w_270 w_263 ⟨_, _, rfl⟩ (c_M_isStep l E base base h0 p1 L V1 e_r2) d_M_force_7 e_n12 rfl ⟨Nat.le_of_ble_eq_true rfl, Nat.le_of_ble_eq_true rfl⟩ (Nat.le_of_ble_eq_true rfl) (Nat.le_of_ble_eq_true rfl) (Nat.le_of_ble_eq_true rfl) rfl ?_
  refine r_if_eq C 22 d_M_force_10 (by decide) (fun c11 => ?_) (fun c11 => ?_)
  · rw [if_pos c11] at h
    refine r_iconst C (0 : Int32) d_M_force_22 (by decide) ?_
    cases h
    exact r_zret C hr d_M_force_23 (Or.inl rfl)
  · rw [if_neg c11] at h
    refine r_aload_n (x := (some h0)) C d_M_force_13 rfl rfl ?_
    replace h := g_ob h; obtain ⟨x4, e_x4, h⟩ := h
    refine r_getR C f_M_23 d_M_force_14 e_x4 ?_
    refine r_iload_n (x := p1) C d_M_force_17 rfl rfl ?_
    replace h := g_ob h; obtain ⟨a5, rfl, h⟩ := h
    replace h := g_ob h; obtain ⟨x6, e_x6, h⟩ := h
    refine r_zald C ak_102 d_M_force_18 e_x6 ?_
    refine r_if_eq C 24 d_M_force_19 (by decide) (fun c10 => ?_) (fun c10 => ?_)
    · rw [if_pos c10] at h
      refine r_aload_n (x := (some h0)) C d_M_force_24 rfl rfl ?_
      replace h := g_ob h; obtain ⟨x7, e_x7, h⟩ := h
      refine r_getR C f_M_23 d_M_force_25 e_x7 ?_
      refine r_iload_n (x := p1) C d_M_force_28 rfl rfl ?_
      refine r_iconst C (1 : Int32) d_M_force_29 (by decide) ?_
      replace h := g_ob h; obtain ⟨a8, rfl, h⟩ := h
      replace h := g_ob h; obtain ⟨V9, e_V9, h⟩ := h
      refine r_zast C ak_102 d_M_force_30 (Or.inr rfl) e_V9 ?_
      refine r_iconst C (1 : Int32) d_M_force_31 (by decide) ?_
      cases h
      exact r_zret C hr d_M_force_32 (Or.inr rfl)
    · rw [if_neg c10] at h
      refine r_iconst C (0 : Int32) d_M_force_22 (by decide) ?_
      cases h
      exact r_zret C hr d_M_force_23 (Or.inl rfl)
theorem c_M_force (l : Launch) (E : gE) (base : Nat) (h0 : Nat) (p1 : Int32) (L : gL) (V : gV) {z : Int32 × gV} (h : D_M_force h0 p1 L V = some z) : g_Met l E base base y_M_force b_M_force 2 (some .boolean) rm_M_force [tR (some h0), tI p1] L V (some (tI z.1)) L z.2 :=
  r_enter R_M (by decide) rfl [tR (some h0), tI p1] [(0, tR (some h0)), (1, tI p1)] rfl (Nat.le_of_ble_eq_true rfl) (fun p e s m args below meth c C hr hnm => t_M_force_0 C hr h0 p1 V h)
def rm_M_record4 : Room := { frames := 0, cells := 0, slots := 0, locals := 0 }
def D_M_record4 (p0 : Int32) (p1 : Int32) (L : gL) (V : gV) : Option (Int32 × gV) :=
  some (((4 : Int32) * p0) + p1, V)
set_option maxHeartbeats 4000000 in
set_option maxRecDepth 100000 in
theorem t_M_record4_0 (C : gC E bA p s m args meth c b_M_record4 R_M 2) (hr : meth.sig.returnType = (some .int)) {z : Int32 × gV} (p0 : Int32) (p1 : Int32) (V : gV) (h : D_M_record4 p0 p1 L V = some z) : vW E base bA 2 p l e rm_M_record4 s m args below meth c 0 0 (g_MQ E base bA below args s 0 0 L z.2 (some (tI z.1))) L V 0 [(0, tI p0), (1, tI p1)] [] := by
  unfold D_M_record4 at h
  refine r_iconst C (4 : Int32) d_M_record4_0 (by decide) ?_
  refine r_iload_n (x := p0) C d_M_record4_1 rfl rfl ?_
  refine r_imul C d_M_record4_2 ?_
  refine r_iload_n (x := p1) C d_M_record4_3 rfl rfl ?_
  refine r_iadd C d_M_record4_4 ?_
  cases h
  exact r_iret C hr d_M_record4_5
theorem c_M_record4 (l : Launch) (E : gE) (base bA : Nat) (p0 : Int32) (p1 : Int32) (L : gL) (V : gV) {z : Int32 × gV} (h : D_M_record4 p0 p1 L V = some z) : g_Met l E base bA y_M_record4 b_M_record4 2 (some .int) rm_M_record4 [tI p0, tI p1] L V (some (tI z.1)) L z.2 :=
  r_enter R_M (by decide) rfl [tI p0, tI p1] [(0, tI p0), (1, tI p1)] rfl (Nat.le_of_ble_eq_true rfl) (fun p e s m args below meth c C hr hnm => t_M_record4_0 C hr p0 p1 V h)
def rm_M_isFileRead : Room := { frames := 0, cells := 0, slots := 0, locals := 0 }
def D_M_isFileRead (h0 : Nat) (p1 : Int32) (p2 : Int32) (L : gL) (V : gV) : Option (Int32 × gV) :=
  Option.bind (g_rR L V 4 h0 11) fun x1 =>
    Option.bind x1 fun a2 =>
    Option.bind (g_aI L V 100 a2 (((6 : Int32) * p1) + p2)) fun x3 =>
    (if x3 = (2 : Int32) then
    some ((1 : Int32), V)
  else
    some ((0 : Int32), V))
set_option maxHeartbeats 4000000 in
set_option maxRecDepth 100000 in
theorem t_M_isFileRead_0 (C : gC E bA p s m args meth c b_M_isFileRead R_M 3) (hr : meth.sig.returnType = (some .boolean)) {z : Int32 × gV} (h0 : Nat) (p1 : Int32) (p2 : Int32) (V : gV) (h : D_M_isFileRead h0 p1 p2 L V = some z) : vW E base bA 3 p l e rm_M_isFileRead s m args below meth c 0 0 (g_MQ E base bA below args s 0 0 L z.2 (some (tI z.1))) L V 0 [(0, tR (some h0)), (1, tI p1), (2, tI p2)] [] := by
  unfold D_M_isFileRead at h
  refine r_aload_n (x := (some h0)) C d_M_isFileRead_0 rfl rfl ?_
  replace h := g_ob h; obtain ⟨x1, e_x1, h⟩ := h
  refine r_getR C f_M_36 d_M_isFileRead_1 e_x1 ?_
  refine r_bipush C (6 : Int32) d_M_isFileRead_4 (by decide) ?_
  refine r_iload_n (x := p1) C d_M_isFileRead_6 rfl rfl ?_
  refine r_imul C d_M_isFileRead_7 ?_
  refine r_iload_n (x := p2) C d_M_isFileRead_8 rfl rfl ?_
  refine r_iadd C d_M_isFileRead_9 ?_
  replace h := g_ob h; obtain ⟨a2, rfl, h⟩ := h
  replace h := g_ob h; obtain ⟨x3, e_x3, h⟩ := h
  refine r_iald C ak_100 d_M_isFileRead_10 e_x3 ?_
  refine r_iconst C (2 : Int32) d_M_isFileRead_11 (by decide) ?_
  refine r_icmp_ne C 19 d_M_isFileRead_12 (by decide) (fun c4 => ?_) (fun c4 => ?_)
  · rw [if_neg c4] at h
    refine r_iconst C (0 : Int32) d_M_isFileRead_19 (by decide) ?_
    cases h
    exact r_zret C hr d_M_isFileRead_20 (Or.inl rfl)
  · rw [if_pos c4] at h
    refine r_iconst C (1 : Int32) d_M_isFileRead_15 (by decide) ?_
    refine r_goto C 20 d_M_isFileRead_16 (by decide) ?_
    cases h
    exact r_zret C hr d_M_isFileRead_20 (Or.inr rfl)
theorem c_M_isFileRead (l : Launch) (E : gE) (base bA : Nat) (h0 : Nat) (p1 : Int32) (p2 : Int32) (L : gL) (V : gV) {z : Int32 × gV} (h : D_M_isFileRead h0 p1 p2 L V = some z) : g_Met l E base bA y_M_isFileRead b_M_isFileRead 3 (some .boolean) rm_M_isFileRead [tR (some h0), tI p1, tI p2] L V (some (tI z.1)) L z.2 :=
  r_enter R_M (by decide) rfl [tR (some h0), tI p1, tI p2] [(0, tR (some h0)), (1, tI p1), (2, tI p2)] rfl (Nat.le_of_ble_eq_true rfl) (fun p e s m args below meth c C hr hnm => t_M_isFileRead_0 C hr h0 p1 p2 V h)
def rm_M_partOf : Room := { frames := 1, cells := 0, slots := 0, locals := 21 }
def D_M_partOf (h0 : Nat) (p1 : Int32) (p2 : Int32) (L : gL) (V : gV) : Option (Int64 × gV) :=
  (if p2 = 0 then
    Option.bind (g_rR L V 4 h0 14) fun x6 =>
    g_b2 (D_M_record4 p1 (0 : Int32) L V) fun r7 V8 =>
    Option.bind x6 fun a9 =>
    Option.bind (g_aJ L V8 101 a9 r7) fun x10 =>
    Option.bind (g_rR L V8 4 h0 4) fun x11 =>
    Option.bind x11 fun a12 =>
    Option.bind (g_aJ L V8 101 a12 p1) fun x13 =>
    some (x10 &&& x13, V8)
  else
    Option.bind (g_rR L V 4 h0 14) fun x1 =>
    g_b2 (D_M_record4 p1 (0 : Int32) L V) fun r2 V3 =>
    Option.bind x1 fun a4 =>
    Option.bind (g_aJ L V3 101 a4 r2) fun x5 =>
    some (x5, V3))
set_option maxHeartbeats 4000000 in
set_option maxRecDepth 100000 in
theorem t_M_partOf_0 (C : gC E bA p s m args meth c b_M_partOf R_M 3) (hr : meth.sig.returnType = (some .long)) {z : Int64 × gV} (h0 : Nat) (p1 : Int32) (p2 : Int32) (V : gV) (h : D_M_partOf h0 p1 p2 L V = some z) : vW E base bA 3 p l e rm_M_partOf s m args below meth c 0 0 (g_MQ E base bA below args s 0 0 L z.2 (some (tJ z.1))) L V 0 [(0, tR (some h0)), (1, tI p1), (2, tI p2)] [] := by
  unfold D_M_partOf at h
  refine r_iload_n (x := p2) C d_M_partOf_0 rfl rfl ?_
  refine r_if_ne C 24 d_M_partOf_1 (by decide) (fun c14 => ?_) (fun c14 => ?_)
  · rw [if_neg c14] at h
    refine r_aload_n (x := (some h0)) C d_M_partOf_24 rfl rfl ?_
    replace h := g_ob h; obtain ⟨x1, e_x1, h⟩ := h
    refine r_getR C f_M_45 d_M_partOf_25 e_x1 ?_
    refine r_iload_n (x := p1) C d_M_partOf_28 rfl rfl ?_
    refine r_iconst C (0 : Int32) d_M_partOf_29 (by decide) ?_
    replace h := g_o2 h; obtain ⟨r2, V3, e_r2, h⟩ := h
    refine r_callS (As := [tI p1, tI (0 : Int32)]) C k_M_93 w_273 w_271 (c_M_record4 l E base bA p1 (0 : Int32) L V e_r2) d_M_partOf_30 rfl ⟨Nat.le_of_ble_eq_true rfl, Nat.le_of_ble_eq_true rfl⟩ (Nat.le_of_ble_eq_true rfl) (Nat.le_of_ble_eq_true rfl) (Nat.le_of_ble_eq_true rfl) rfl ?_
    replace h := g_ob h; obtain ⟨a4, rfl, h⟩ := h
    replace h := g_ob h; obtain ⟨x5, e_x5, h⟩ := h
    refine r_lald C ak_101 d_M_partOf_33 e_x5 ?_
    cases h
    exact r_lret C hr d_M_partOf_34
  · rw [if_pos c14] at h
    refine r_aload_n (x := (some h0)) C d_M_partOf_4 rfl rfl ?_
    replace h := g_ob h; obtain ⟨x6, e_x6, h⟩ := h
    refine r_getR C f_M_45 d_M_partOf_5 e_x6 ?_
    refine r_iload_n (x := p1) C d_M_partOf_8 rfl rfl ?_
    refine r_iconst C (0 : Int32) d_M_partOf_9 (by decide) ?_
    replace h := g_o2 h; obtain ⟨r7, V8, e_r7, h⟩ := h
    refine r_callS (As := [tI p1, tI (0 : Int32)]) C k_M_93 w_273 w_271 (c_M_record4 l E base bA p1 (0 : Int32) L V e_r7) d_M_partOf_10 rfl ⟨Nat.le_of_ble_eq_true rfl, Nat.le_of_ble_eq_true rfl⟩ (Nat.le_of_ble_eq_true rfl) (Nat.le_of_ble_eq_true rfl) (Nat.le_of_ble_eq_true rfl) rfl ?_
    replace h := g_ob h; obtain ⟨a9, rfl, h⟩ := h
    replace h := g_ob h; obtain ⟨x10, e_x10, h⟩ := h
    refine r_lald C ak_101 d_M_partOf_13 e_x10 ?_
    refine r_aload_n (x := (some h0)) C d_M_partOf_14 rfl rfl ?_
    replace h := g_ob h; obtain ⟨x11, e_x11, h⟩ := h
    refine r_getR C f_M_13 d_M_partOf_15 e_x11 ?_
    refine r_iload_n (x := p1) C d_M_partOf_18 rfl rfl ?_
    replace h := g_ob h; obtain ⟨a12, rfl, h⟩ := h
    replace h := g_ob h; obtain ⟨x13, e_x13, h⟩ := h
    refine r_lald C ak_101 d_M_partOf_19 e_x13 ?_
    refine r_land C d_M_partOf_20 ?_
    refine r_goto C 34 d_M_partOf_21 (by decide) ?_
    cases h
    exact r_lret C hr d_M_partOf_34
theorem c_M_partOf (l : Launch) (E : gE) (base bA : Nat) (h0 : Nat) (p1 : Int32) (p2 : Int32) (L : gL) (V : gV) {z : Int64 × gV} (h : D_M_partOf h0 p1 p2 L V = some z) : g_Met l E base bA y_M_partOf b_M_partOf 3 (some .long) rm_M_partOf [tR (some h0), tI p1, tI p2] L V (some (tJ z.1)) L z.2 :=
  r_enter R_M (by decide) rfl [tR (some h0), tI p1, tI p2] [(0, tR (some h0)), (1, tI p1), (2, tI p2)] rfl (Nat.le_of_ble_eq_true rfl) (fun p e s m args below meth c C hr hnm => t_M_partOf_0 C hr h0 p1 p2 V h)
def rm_M_valueNow : Room := { frames := 2, cells := 0, slots := 0, locals := 43 }
def D_M_valueNow (h0 : Nat) (p1 : Int32) (p2 : Int32) (L : gL) (V : gV) : Option (Int64 × gV) :=
  Option.bind (g_rR L V 4 h0 10) fun x1 =>
    Option.bind x1 fun a2 =>
    Option.bind (g_aI L V 100 a2 (((6 : Int32) * p1) + p2)) fun x3 =>
    Option.bind ((L).2 4 h0) fun n20 =>
    g_b2 (D_M_isFileRead h0 p1 p2 L V) fun r4 V5 =>
    (if r4 = 0 then
    Option.bind (g_rR L V5 4 h0 11) fun x6 =>
    Option.bind x6 fun a7 =>
    Option.bind (g_aI L V5 100 a7 (((6 : Int32) * p1) + p2)) fun x8 =>
    Option.bind ((L).2 4 h0) fun n11 =>
    g_b2 (D_M_partOf h0 x3 x8 L V5) fun r9 V10 =>
    some (r9, V10)
  else
    Option.bind (g_rR L V5 4 h0 6) fun x12 =>
    Option.bind x12 fun a13 =>
    Option.bind (g_aI L V5 102 a13 x3) fun x14 =>
    (if x14 = 0 then
    some ((0 : Int64), V5)
  else
    Option.bind (g_rR L V5 4 h0 3) fun x15 =>
    Option.bind x15 fun a16 =>
    Option.bind (g_aJ L V5 101 a16 x3) fun x17 =>
    some (x17, V5)))
set_option maxHeartbeats 4000000 in
set_option maxRecDepth 100000 in
theorem t_M_valueNow_0 (C : gC E bA p s m args meth c b_M_valueNow R_M 4) (hr : meth.sig.returnType = (some .long)) {z : Int64 × gV} (h0 : Nat) (p1 : Int32) (p2 : Int32) (V : gV) (h : D_M_valueNow h0 p1 p2 L V = some z) : vW E base bA 4 p l e rm_M_valueNow s m args below meth c 0 0 (g_MQ E base bA below args s 0 0 L z.2 (some (tJ z.1))) L V 0 [(0, tR (some h0)), (1, tI p1), (2, tI p2)] [] := by
  unfold D_M_valueNow at h
  refine r_aload_n (x := (some h0)) C d_M_valueNow_0 rfl rfl ?_
  replace h := g_ob h; obtain ⟨x1, e_x1, h⟩ := h
  refine r_getR C f_M_33 d_M_valueNow_1 e_x1 ?_
  refine r_bipush C (6 : Int32) d_M_valueNow_4 (by decide) ?_
  refine r_iload_n (x := p1) C d_M_valueNow_6 rfl rfl ?_
  refine r_imul C d_M_valueNow_7 ?_
  refine r_iload_n (x := p2) C d_M_valueNow_8 rfl rfl ?_
  refine r_iadd C d_M_valueNow_9 ?_
  replace h := g_ob h; obtain ⟨a2, rfl, h⟩ := h
  replace h := g_ob h; obtain ⟨x3, e_x3, h⟩ := h
  refine r_iald C ak_100 d_M_valueNow_10 e_x3 ?_
  refine r_istore_n (lv' := [(3, tI x3), (0, tR (some h0)), (1, tI p1), (2, tI p2)]) C d_M_valueNow_11 rfl (by decide) rfl ?_
  refine r_aload_n (x := (some h0)) C d_M_valueNow_12 rfl rfl ?_
  refine r_iload_n (x := p1) C d_M_valueNow_13 rfl rfl ?_
  refine r_iload_n (x := p2) C d_M_valueNow_14 rfl rfl ?_
  replace h := g_ob h; obtain ⟨n20, e_n20, h⟩ := h
  replace h := g_o2 h; obtain ⟨r4, V5, e_r4, h⟩ := h
  refine r_callV (As := [tI p1, tI p2]) C k_M_97 w_280 w_281 w_274 ⟨_, _, rfl⟩ (c_M_isFileRead l E base bA h0 p1 p2 L V e_r4) d_M_valueNow_15 e_n20 rfl ⟨Nat.le_of_ble_eq_true rfl, Nat.le_of_ble_eq_true rfl⟩ (Nat.le_of_ble_eq_true rfl) (Nat.le_of_ble_eq_true rfl) (Nat.le_of_ble_eq_true rfl) rfl ?_
  refine r_if_eq C 43 d_M_valueNow_18 (by decide) (fun c19 => ?_) (fun c19 => ?_)
  · rw [if_pos c19] at h
    refine r_aload_n (x := (some h0)) C d_M_valueNow_43 rfl rfl ?_
    refine r_iload_n (x := x3) C d_M_valueNow_44 rfl rfl ?_
    refine r_aload_n (x := (some h0)) C d_M_valueNow_45 rfl rfl ?_
    replace h := g_ob h; obtain ⟨x6, e_x6, h⟩ := h
    refine r_getR C f_M_36 d_M_valueNow_46 e_x6 ?_
    refine r_bipush C (6 : Int32) d_M_valueNow_49 (by decide) ?_
    refine r_iload_n (x := p1) C d_M_valueNow_51 rfl rfl ?_
    refine r_imul C d_M_valueNow_52 ?_
    refine r_iload_n (x := p2) C d_M_valueNow_53 rfl rfl ?_
    refine r_iadd C d_M_valueNow_54 ?_
    replace h := g_ob h; obtain ⟨a7, rfl, h⟩ := h
    replace h := g_ob h; obtain ⟨x8, e_x8, h⟩ := h
    refine r_iald C ak_100 d_M_valueNow_55 e_x8 ?_
    replace h := g_ob h; obtain ⟨n11, e_n11, h⟩ := h
    replace h := g_o2 h; obtain ⟨r9, V10, e_r9, h⟩ := h
    refine r_callV (As := [tI x3, tI x8]) C k_M_101 w_278 w_279 w_276 ⟨_, _, rfl⟩ (c_M_partOf l E base bA h0 x3 x8 L V5 e_r9) d_M_valueNow_56 e_n11 rfl ⟨Nat.le_of_ble_eq_true rfl, Nat.le_of_ble_eq_true rfl⟩ (Nat.le_of_ble_eq_true rfl) (Nat.le_of_ble_eq_true rfl) (Nat.le_of_ble_eq_true rfl) rfl ?_
    cases h
    exact r_lret C hr d_M_valueNow_59
  · rw [if_neg c19] at h
    refine r_aload_n (x := (some h0)) C d_M_valueNow_21 rfl rfl ?_
    replace h := g_ob h; obtain ⟨x12, e_x12, h⟩ := h
    refine r_getR C f_M_19 d_M_valueNow_22 e_x12 ?_
    refine r_iload_n (x := x3) C d_M_valueNow_25 rfl rfl ?_
    replace h := g_ob h; obtain ⟨a13, rfl, h⟩ := h
    replace h := g_ob h; obtain ⟨x14, e_x14, h⟩ := h
    refine r_zald C ak_102 d_M_valueNow_26 e_x14 ?_
    refine r_if_eq C 39 d_M_valueNow_27 (by decide) (fun c18 => ?_) (fun c18 => ?_)
    · rw [if_pos c18] at h
      refine r_lconst C (0 : Int64) d_M_valueNow_39 (by decide) ?_
      refine r_goto C 59 d_M_valueNow_40 (by decide) ?_
      cases h
      exact r_lret C hr d_M_valueNow_59
    · rw [if_neg c18] at h
      refine r_aload_n (x := (some h0)) C d_M_valueNow_30 rfl rfl ?_
      replace h := g_ob h; obtain ⟨x15, e_x15, h⟩ := h
      refine r_getR C f_M_7 d_M_valueNow_31 e_x15 ?_
      refine r_iload_n (x := x3) C d_M_valueNow_34 rfl rfl ?_
      replace h := g_ob h; obtain ⟨a16, rfl, h⟩ := h
      replace h := g_ob h; obtain ⟨x17, e_x17, h⟩ := h
      refine r_lald C ak_101 d_M_valueNow_35 e_x17 ?_
      refine r_goto C 59 d_M_valueNow_36 (by decide) ?_
      cases h
      exact r_lret C hr d_M_valueNow_59
theorem c_M_valueNow (l : Launch) (E : gE) (base bA : Nat) (h0 : Nat) (p1 : Int32) (p2 : Int32) (L : gL) (V : gV) {z : Int64 × gV} (h : D_M_valueNow h0 p1 p2 L V = some z) : g_Met l E base bA y_M_valueNow b_M_valueNow 4 (some .long) rm_M_valueNow [tR (some h0), tI p1, tI p2] L V (some (tJ z.1)) L z.2 :=
  r_enter R_M (by decide) rfl [tR (some h0), tI p1, tI p2] [(0, tR (some h0)), (1, tI p1), (2, tI p2)] rfl (Nat.le_of_ble_eq_true rfl) (fun p e s m args below meth c C hr hnm => t_M_valueNow_0 C hr h0 p1 p2 V h)
def rm_M_thereNow : Room := { frames := 1, cells := 0, slots := 0, locals := 22 }
def D_M_thereNow_28 (L : gL)  (V : gV) : Option (Int32 × gV) :=
  some ((1 : Int32), V)
def D_M_thereNow (h0 : Nat) (p1 : Int32) (p2 : Int32) (L : gL) (V : gV) : Option (Int32 × gV) :=
  Option.bind ((L).2 4 h0) fun n11 =>
    g_b2 (D_M_isFileRead h0 p1 p2 L V) fun r1 V2 =>
    (if r1 = 0 then
    D_M_thereNow_28 L   V2
  else
    Option.bind (g_rR L V2 4 h0 6) fun x3 =>
    Option.bind (g_rR L V2 4 h0 10) fun x4 =>
    Option.bind x4 fun a5 =>
    Option.bind (g_aI L V2 100 a5 (((6 : Int32) * p1) + p2)) fun x6 =>
    Option.bind x3 fun a7 =>
    Option.bind (g_aI L V2 102 a7 x6) fun x8 =>
    (if x8 = 0 then
    some ((0 : Int32), V2)
  else
    D_M_thereNow_28 L   V2))
set_option maxHeartbeats 4000000 in
set_option maxRecDepth 100000 in
theorem t_M_thereNow_28 (C : gC E bA p s m args meth c b_M_thereNow R_M 3) (hr : meth.sig.returnType = (some .boolean)) {z : Int32 × gV}  (V : gV) (h : D_M_thereNow_28 L   V = some z) : vW E base bA 3 p l e rm_M_thereNow s m args below meth c 0 0 (g_MQ E base bA below args s 0 0 L z.2 (some (tI z.1))) L V 28 [] [] := by
  unfold D_M_thereNow_28 at h
  refine r_iconst C (1 : Int32) d_M_thereNow_28 (by decide) ?_
  refine r_goto C 33 d_M_thereNow_29 (by decide) ?_
  cases h
  exact r_zret C hr d_M_thereNow_33 (Or.inr rfl)
set_option maxHeartbeats 4000000 in
set_option maxRecDepth 100000 in
theorem t_M_thereNow_0 (C : gC E bA p s m args meth c b_M_thereNow R_M 3) (hr : meth.sig.returnType = (some .boolean)) {z : Int32 × gV} (h0 : Nat) (p1 : Int32) (p2 : Int32) (V : gV) (h : D_M_thereNow h0 p1 p2 L V = some z) : vW E base bA 3 p l e rm_M_thereNow s m args below meth c 0 0 (g_MQ E base bA below args s 0 0 L z.2 (some (tI z.1))) L V 0 [(0, tR (some h0)), (1, tI p1), (2, tI p2)] [] := by
  unfold D_M_thereNow at h
  refine r_aload_n (x := (some h0)) C d_M_thereNow_0 rfl rfl ?_
  refine r_iload_n (x := p1) C d_M_thereNow_1 rfl rfl ?_
  refine r_iload_n (x := p2) C d_M_thereNow_2 rfl rfl ?_
  replace h := g_ob h; obtain ⟨n11, e_n11, h⟩ := h
  replace h := g_o2 h; obtain ⟨r1, V2, e_r1, h⟩ := h
  refine r_callV (As := [tI p1, tI p2]) C k_M_97 w_280 w_281 w_274 ⟨_, _, rfl⟩ (c_M_isFileRead l E base bA h0 p1 p2 L V e_r1) d_M_thereNow_3 e_n11 rfl ⟨Nat.le_of_ble_eq_true rfl, Nat.le_of_ble_eq_true rfl⟩ (Nat.le_of_ble_eq_true rfl) (Nat.le_of_ble_eq_true rfl) (Nat.le_of_ble_eq_true rfl) rfl ?_
  refine r_if_eq C 28 d_M_thereNow_6 (by decide) (fun c10 => ?_) (fun c10 => ?_)
  · rw [if_pos c10] at h
    refine r_lv [] rfl ?_
    exact t_M_thereNow_28 C hr   V2 h
  · rw [if_neg c10] at h
    refine r_aload_n (x := (some h0)) C d_M_thereNow_9 rfl rfl ?_
    replace h := g_ob h; obtain ⟨x3, e_x3, h⟩ := h
    refine r_getR C f_M_19 d_M_thereNow_10 e_x3 ?_
    refine r_aload_n (x := (some h0)) C d_M_thereNow_13 rfl rfl ?_
    replace h := g_ob h; obtain ⟨x4, e_x4, h⟩ := h
    refine r_getR C f_M_33 d_M_thereNow_14 e_x4 ?_
    refine r_bipush C (6 : Int32) d_M_thereNow_17 (by decide) ?_
    refine r_iload_n (x := p1) C d_M_thereNow_19 rfl rfl ?_
    refine r_imul C d_M_thereNow_20 ?_
    refine r_iload_n (x := p2) C d_M_thereNow_21 rfl rfl ?_
    refine r_iadd C d_M_thereNow_22 ?_
    replace h := g_ob h; obtain ⟨a5, rfl, h⟩ := h
    replace h := g_ob h; obtain ⟨x6, e_x6, h⟩ := h
    refine r_iald C ak_100 d_M_thereNow_23 e_x6 ?_
    replace h := g_ob h; obtain ⟨a7, rfl, h⟩ := h
    replace h := g_ob h; obtain ⟨x8, e_x8, h⟩ := h
    refine r_zald C ak_102 d_M_thereNow_24 e_x8 ?_
    refine r_if_eq C 32 d_M_thereNow_25 (by decide) (fun c9 => ?_) (fun c9 => ?_)
    · rw [if_pos c9] at h
      refine r_iconst C (0 : Int32) d_M_thereNow_32 (by decide) ?_
      cases h
      exact r_zret C hr d_M_thereNow_33 (Or.inl rfl)
    · rw [if_neg c9] at h
      refine r_lv [] rfl ?_
      exact t_M_thereNow_28 C hr   V2 h
theorem c_M_thereNow (l : Launch) (E : gE) (base bA : Nat) (h0 : Nat) (p1 : Int32) (p2 : Int32) (L : gL) (V : gV) {z : Int32 × gV} (h : D_M_thereNow h0 p1 p2 L V = some z) : g_Met l E base bA y_M_thereNow b_M_thereNow 3 (some .boolean) rm_M_thereNow [tR (some h0), tI p1, tI p2] L V (some (tI z.1)) L z.2 :=
  r_enter R_M (by decide) rfl [tR (some h0), tI p1, tI p2] [(0, tR (some h0)), (1, tI p1), (2, tI p2)] rfl (Nat.le_of_ble_eq_true rfl) (fun p e s m args below meth c C hr hnm => t_M_thereNow_0 C hr h0 p1 p2 V h)
def rm_M_isAsWas : Room := { frames := 3, cells := 0, slots := 0, locals := 66 }
def D_M_isAsWas (h0 : Nat) (p1 : Int32) (p2 : Int32) (p3 : Int32) (L : gL) (V : gV) : Option (Int32 × gV) :=
  g_b2 (D_M_record4 p1 p2 L V) fun r1 V2 =>
    Option.bind (g_rR L V2 4 h0 16) fun x3 =>
    Option.bind x3 fun a4 =>
    Option.bind (g_aI L V2 102 a4 (((6 : Int32) * r1) + p3)) fun x5 =>
    Option.bind ((L).2 4 h0) fun n16 =>
    g_b2 (D_M_thereNow h0 p1 p3 L V2) fun r6 V7 =>
    (if x5 = r6 then
    Option.bind (g_rR L V7 4 h0 15) fun x8 =>
    Option.bind x8 fun a9 =>
    Option.bind (g_aJ L V7 101 a9 (((6 : Int32) * r1) + p3)) fun x10 =>
    Option.bind ((L).2 4 h0) fun n14 =>
    g_b2 (D_M_valueNow h0 p1 p3 L V7) fun r11 V12 =>
    (if (lg_cmp x10 r11) = 0 then
    some ((1 : Int32), V12)
  else
    some ((0 : Int32), V12))
  else
    some ((0 : Int32), V7))
set_option maxHeartbeats 4000000 in
set_option maxRecDepth 100000 in
theorem t_M_isAsWas_0 (C : gC E bA p s m args meth c b_M_isAsWas R_M 5) (hr : meth.sig.returnType = (some .boolean)) {z : Int32 × gV} (h0 : Nat) (p1 : Int32) (p2 : Int32) (p3 : Int32) (V : gV) (h : D_M_isAsWas h0 p1 p2 p3 L V = some z) : vW E base bA 5 p l e rm_M_isAsWas s m args below meth c 0 0 (g_MQ E base bA below args s 0 0 L z.2 (some (tI z.1))) L V 0 [(0, tR (some h0)), (1, tI p1), (2, tI p2), (3, tI p3)] [] := by
  unfold D_M_isAsWas at h
  refine r_bipush C (6 : Int32) d_M_isAsWas_0 (by decide) ?_
  refine r_iload_n (x := p1) C d_M_isAsWas_2 rfl rfl ?_
  refine r_iload_n (x := p2) C d_M_isAsWas_3 rfl rfl ?_
  replace h := g_o2 h; obtain ⟨r1, V2, e_r1, h⟩ := h
  refine r_callS (As := [tI p1, tI p2]) C k_M_93 w_273 w_271 (c_M_record4 l E base bA p1 p2 L V e_r1) d_M_isAsWas_4 rfl ⟨Nat.le_of_ble_eq_true rfl, Nat.le_of_ble_eq_true rfl⟩ (Nat.le_of_ble_eq_true rfl) (Nat.le_of_ble_eq_true rfl) (Nat.le_of_ble_eq_true rfl) rfl ?_
  refine r_imul C d_M_isAsWas_7 ?_
  refine r_iload_n (x := p3) C d_M_isAsWas_8 rfl rfl ?_
  refine r_iadd C d_M_isAsWas_9 ?_
  refine r_istore (lv' := [(4, tI (((6 : Int32) * r1) + p3)), (0, tR (some h0)), (1, tI p1), (2, tI p2), (3, tI p3)]) C d_M_isAsWas_10 (by decide) rfl ?_
  refine r_aload_n (x := (some h0)) C d_M_isAsWas_12 rfl rfl ?_
  replace h := g_ob h; obtain ⟨x3, e_x3, h⟩ := h
  refine r_getR C f_M_51 d_M_isAsWas_13 e_x3 ?_
  refine r_iload (x := ((6 : Int32) * r1) + p3) C d_M_isAsWas_16 rfl ?_
  replace h := g_ob h; obtain ⟨a4, rfl, h⟩ := h
  replace h := g_ob h; obtain ⟨x5, e_x5, h⟩ := h
  refine r_zald C ak_102 d_M_isAsWas_18 e_x5 ?_
  refine r_aload_n (x := (some h0)) C d_M_isAsWas_19 rfl rfl ?_
  refine r_iload_n (x := p1) C d_M_isAsWas_20 rfl rfl ?_
  refine r_iload_n (x := p3) C d_M_isAsWas_21 rfl rfl ?_
  replace h := g_ob h; obtain ⟨n16, e_n16, h⟩ := h
  replace h := g_o2 h; obtain ⟨r6, V7, e_r6, h⟩ := h
  refine r_callV (As := [tI p1, tI p3]) C k_M_105 w_288 w_289 w_282 ⟨_, _, rfl⟩ (c_M_thereNow l E base bA h0 p1 p3 L V2 e_r6) d_M_isAsWas_22 e_n16 rfl ⟨Nat.le_of_ble_eq_true rfl, Nat.le_of_ble_eq_true rfl⟩ (Nat.le_of_ble_eq_true rfl) (Nat.le_of_ble_eq_true rfl) (Nat.le_of_ble_eq_true rfl) rfl ?_
  refine r_icmp_ne C 49 d_M_isAsWas_25 (by decide) (fun c15 => ?_) (fun c15 => ?_)
  · rw [if_neg c15] at h
    refine r_iconst C (0 : Int32) d_M_isAsWas_49 (by decide) ?_
    cases h
    exact r_zret C hr d_M_isAsWas_50 (Or.inl rfl)
  · rw [if_pos c15] at h
    refine r_aload_n (x := (some h0)) C d_M_isAsWas_28 rfl rfl ?_
    replace h := g_ob h; obtain ⟨x8, e_x8, h⟩ := h
    refine r_getR C f_M_48 d_M_isAsWas_29 e_x8 ?_
    refine r_iload (x := ((6 : Int32) * r1) + p3) C d_M_isAsWas_32 rfl ?_
    replace h := g_ob h; obtain ⟨a9, rfl, h⟩ := h
    replace h := g_ob h; obtain ⟨x10, e_x10, h⟩ := h
    refine r_lald C ak_101 d_M_isAsWas_34 e_x10 ?_
    refine r_aload_n (x := (some h0)) C d_M_isAsWas_35 rfl rfl ?_
    refine r_iload_n (x := p1) C d_M_isAsWas_36 rfl rfl ?_
    refine r_iload_n (x := p3) C d_M_isAsWas_37 rfl rfl ?_
    replace h := g_ob h; obtain ⟨n14, e_n14, h⟩ := h
    replace h := g_o2 h; obtain ⟨r11, V12, e_r11, h⟩ := h
    refine r_callV (As := [tI p1, tI p3]) C k_M_108 w_286 w_287 w_284 ⟨_, _, rfl⟩ (c_M_valueNow l E base bA h0 p1 p3 L V7 e_r11) d_M_isAsWas_38 e_n14 rfl ⟨Nat.le_of_ble_eq_true rfl, Nat.le_of_ble_eq_true rfl⟩ (Nat.le_of_ble_eq_true rfl) (Nat.le_of_ble_eq_true rfl) (Nat.le_of_ble_eq_true rfl) rfl ?_
    refine r_lcmp C d_M_isAsWas_41 ?_
    refine r_if_ne C 49 d_M_isAsWas_42 (by decide) (fun c13 => ?_) (fun c13 => ?_)
    · rw [if_neg c13] at h
      refine r_iconst C (0 : Int32) d_M_isAsWas_49 (by decide) ?_
      cases h
      exact r_zret C hr d_M_isAsWas_50 (Or.inl rfl)
    · rw [if_pos c13] at h
      refine r_iconst C (1 : Int32) d_M_isAsWas_45 (by decide) ?_
      refine r_goto C 50 d_M_isAsWas_46 (by decide) ?_
      cases h
      exact r_zret C hr d_M_isAsWas_50 (Or.inr rfl)
theorem c_M_isAsWas (l : Launch) (E : gE) (base bA : Nat) (h0 : Nat) (p1 : Int32) (p2 : Int32) (p3 : Int32) (L : gL) (V : gV) {z : Int32 × gV} (h : D_M_isAsWas h0 p1 p2 p3 L V = some z) : g_Met l E base bA y_M_isAsWas b_M_isAsWas 5 (some .boolean) rm_M_isAsWas [tR (some h0), tI p1, tI p2, tI p3] L V (some (tI z.1)) L z.2 :=
  r_enter R_M (by decide) rfl [tR (some h0), tI p1, tI p2, tI p3] [(0, tR (some h0)), (1, tI p1), (2, tI p2), (3, tI p3)] rfl (Nat.le_of_ble_eq_true rfl) (fun p e s m args below meth c C hr hnm => t_M_isAsWas_0 C hr h0 p1 p2 p3 V h)
def rm_M_matching : Room := { frames := 4, cells := 0, slots := 0, locals := 90 }
def D_M_matching_17 (L : gL) (K2 : Nat → Int32 → Int32 → gV → Option (Int32 × gV)) : Nat → Nat → Int32 → Int32 → Int32 → Int32 → gV → Option (Int32 × gV)
  | 0, _, _, _, _, _, _ => none
  | n + 1, v0, v1, v2, v3, v4, V =>
  Option.bind (g_rR L V 4 v0 9) fun x1 =>
    Option.bind x1 fun a2 =>
    Option.bind (g_aI L V 100 a2 v1) fun x3 =>
    (if x3 ≤ v4 then
    (if v3 = 0 then
    K2 v0 v1 (v2 + (1 : Int32)) V
  else
    some (v2, V))
  else
    (if v3 = 0 then
    D_M_matching_17 L K2 n v0 v1 v2 (0 : Int32) (v4 + (1 : Int32)) V
  else
    Option.bind ((L).2 4 v0) fun n8 =>
    g_b2 (D_M_isAsWas v0 v1 v2 v4 L V) fun r5 V6 =>
    (if r5 = 0 then
    D_M_matching_17 L K2 n v0 v1 v2 (0 : Int32) (v4 + (1 : Int32)) V6
  else
    D_M_matching_17 L K2 n v0 v1 v2 (1 : Int32) (v4 + (1 : Int32)) V6)))
def D_M_matching_2 (L : gL) : Nat → Nat → Int32 → Int32 → gV → Option (Int32 × gV)
  | 0, _, _, _, _ => none
  | n + 1, v0, v1, v2, V =>
  Option.bind (g_rR L V 4 v0 12) fun x1 =>
    Option.bind x1 fun a2 =>
    Option.bind (g_aI L V 100 a2 v1) fun x3 =>
    (if x3 ≤ v2 then
    some ((-1 : Int32), V)
  else
    D_M_matching_17 L (D_M_matching_2 L  n) 1000 v0 v1 v2 (1 : Int32) (0 : Int32) V)
def D_M_matching (h0 : Nat) (p1 : Int32) (L : gL) (V : gV) : Option (Int32 × gV) :=
  D_M_matching_2 L  1000 h0 p1 (0 : Int32) V
set_option maxHeartbeats 4000000 in
set_option maxRecDepth 100000 in
theorem t_M_matching_17 (C : gC E bA p s m args meth c b_M_matching R_M 5) (hr : meth.sig.returnType = (some .int)) {z : Int32 × gV} (K2 : Nat → Int32 → Int32 → gV → Option (Int32 × gV)) (hK2 : ∀ (v0 : Nat) (v1 : Int32) (v2 : Int32) (V : gV), K2 v0 v1 v2 V = some z → vW E base bA 5 p l e rm_M_matching s m args below meth c 0 0 (g_MQ E base bA below args s 0 0 L z.2 (some (tI z.1))) L V 2 [(0, tR (some v0)), (1, tI v1), (2, tI v2)] []) : ∀ (n : Nat) (v0 : Nat) (v1 : Int32) (v2 : Int32) (v3 : Int32) (v4 : Int32) (V : gV), D_M_matching_17 L K2 n v0 v1 v2 v3 v4 V = some z → vW E base bA 5 p l e rm_M_matching s m args below meth c 0 0 (g_MQ E base bA below args s 0 0 L z.2 (some (tI z.1))) L V 17 [(0, tR (some v0)), (1, tI v1), (2, tI v2), (3, tI v3), (4, tI v4)] [] := by
  intro n
  induction n with
  | zero =>
    intro v0 v1 v2 v3 v4 V h
    rw [D_M_matching_17] at h
    cases h
  | succ n ih =>
    intro v0 v1 v2 v3 v4 V h
    rw [D_M_matching_17] at h
    refine r_iload (x := v4) C d_M_matching_17 rfl ?_
    refine r_aload_n (x := (some v0)) C d_M_matching_19 rfl rfl ?_
    replace h := g_ob h; obtain ⟨x1, e_x1, h⟩ := h
    refine r_getR C f_M_30 d_M_matching_20 e_x1 ?_
    refine r_iload_n (x := v1) C d_M_matching_23 rfl rfl ?_
    replace h := g_ob h; obtain ⟨a2, rfl, h⟩ := h
    replace h := g_ob h; obtain ⟨x3, e_x3, h⟩ := h
    refine r_iald C ak_100 d_M_matching_24 e_x3 ?_
    refine r_icmp_ge C 55 d_M_matching_25 (by decide) (fun c10 => ?_) (fun c10 => ?_)
    · rw [if_pos c10] at h
      refine r_iload_n (x := v3) C d_M_matching_55 rfl rfl ?_
      refine r_if_eq C 61 d_M_matching_56 (by decide) (fun c4 => ?_) (fun c4 => ?_)
      · rw [if_pos c4] at h
        refine r_iinc (x := v2) (v := v2 + (1 : Int32)) (lv' := [(2, tI (v2 + (1 : Int32))), (0, tR (some v0)), (1, tI v1), (3, tI v3), (4, tI v4)]) C d_M_matching_61 rfl rfl (by decide) rfl ?_
        refine r_goto C 2 d_M_matching_64 (by decide) ?_
        refine r_lv [1, 2, 0] rfl ?_
        exact hK2 v0 v1 (v2 + (1 : Int32)) V h
      · rw [if_neg c4] at h
        refine r_iload_n (x := v2) C d_M_matching_59 rfl rfl ?_
        cases h
        exact r_iret C hr d_M_matching_60
    · rw [if_neg c10] at h
      refine r_iload_n (x := v3) C d_M_matching_28 rfl rfl ?_
      refine r_if_eq C 47 d_M_matching_29 (by decide) (fun c9 => ?_) (fun c9 => ?_)
      · rw [if_pos c9] at h
        refine r_iconst C (0 : Int32) d_M_matching_47 (by decide) ?_
        refine r_istore_n (lv' := [(3, tI (0 : Int32)), (0, tR (some v0)), (1, tI v1), (2, tI v2), (4, tI v4)]) C d_M_matching_48 rfl (by decide) rfl ?_
        refine r_iinc (x := v4) (v := v4 + (1 : Int32)) (lv' := [(4, tI (v4 + (1 : Int32))), (3, tI (0 : Int32)), (0, tR (some v0)), (1, tI v1), (2, tI v2)]) C d_M_matching_49 rfl rfl (by decide) rfl ?_
        refine r_goto C 17 d_M_matching_52 (by decide) ?_
        refine r_lv [2, 3, 4, 1, 0] rfl ?_
        exact ih v0 v1 v2 (0 : Int32) (v4 + (1 : Int32)) V h
      · rw [if_neg c9] at h
        refine r_aload_n (x := (some v0)) C d_M_matching_32 rfl rfl ?_
        refine r_iload_n (x := v1) C d_M_matching_33 rfl rfl ?_
        refine r_iload_n (x := v2) C d_M_matching_34 rfl rfl ?_
        refine r_iload (x := v4) C d_M_matching_35 rfl ?_
        replace h := g_ob h; obtain ⟨n8, e_n8, h⟩ := h
        replace h := g_o2 h; obtain ⟨r5, V6, e_r5, h⟩ := h
        refine r_callV (As := [tI v1, tI v2, tI v4]) C k_M_111 w_292 w_293 w_290 ⟨_, _, rfl⟩ (c_M_isAsWas l E base bA v0 v1 v2 v4 L V e_r5) d_M_matching_37 e_n8 rfl ⟨Nat.le_of_ble_eq_true rfl, Nat.le_of_ble_eq_true rfl⟩ (Nat.le_of_ble_eq_true rfl) (Nat.le_of_ble_eq_true rfl) (Nat.le_of_ble_eq_true rfl) rfl ?_
        refine r_if_eq C 47 d_M_matching_40 (by decide) (fun c7 => ?_) (fun c7 => ?_)
        · rw [if_pos c7] at h
          refine r_iconst C (0 : Int32) d_M_matching_47 (by decide) ?_
          refine r_istore_n (lv' := [(3, tI (0 : Int32)), (0, tR (some v0)), (1, tI v1), (2, tI v2), (4, tI v4)]) C d_M_matching_48 rfl (by decide) rfl ?_
          refine r_iinc (x := v4) (v := v4 + (1 : Int32)) (lv' := [(4, tI (v4 + (1 : Int32))), (3, tI (0 : Int32)), (0, tR (some v0)), (1, tI v1), (2, tI v2)]) C d_M_matching_49 rfl rfl (by decide) rfl ?_
          refine r_goto C 17 d_M_matching_52 (by decide) ?_
          refine r_lv [2, 3, 4, 1, 0] rfl ?_
          exact ih v0 v1 v2 (0 : Int32) (v4 + (1 : Int32)) V6 h
        · rw [if_neg c7] at h
          refine r_iconst C (1 : Int32) d_M_matching_43 (by decide) ?_
          refine r_goto C 48 d_M_matching_44 (by decide) ?_
          refine r_istore_n (lv' := [(3, tI (1 : Int32)), (0, tR (some v0)), (1, tI v1), (2, tI v2), (4, tI v4)]) C d_M_matching_48 rfl (by decide) rfl ?_
          refine r_iinc (x := v4) (v := v4 + (1 : Int32)) (lv' := [(4, tI (v4 + (1 : Int32))), (3, tI (1 : Int32)), (0, tR (some v0)), (1, tI v1), (2, tI v2)]) C d_M_matching_49 rfl rfl (by decide) rfl ?_
          refine r_goto C 17 d_M_matching_52 (by decide) ?_
          refine r_lv [2, 3, 4, 1, 0] rfl ?_
          exact ih v0 v1 v2 (1 : Int32) (v4 + (1 : Int32)) V6 h
set_option maxHeartbeats 4000000 in
set_option maxRecDepth 100000 in
theorem t_M_matching_2 (C : gC E bA p s m args meth c b_M_matching R_M 5) (hr : meth.sig.returnType = (some .int)) {z : Int32 × gV} : ∀ (n : Nat) (v0 : Nat) (v1 : Int32) (v2 : Int32) (V : gV), D_M_matching_2 L  n v0 v1 v2 V = some z → vW E base bA 5 p l e rm_M_matching s m args below meth c 0 0 (g_MQ E base bA below args s 0 0 L z.2 (some (tI z.1))) L V 2 [(0, tR (some v0)), (1, tI v1), (2, tI v2)] [] := by
  intro n
  induction n with
  | zero =>
    intro v0 v1 v2 V h
    rw [D_M_matching_2] at h
    cases h
  | succ n ih =>
    intro v0 v1 v2 V h
    rw [D_M_matching_2] at h
    refine r_iload_n (x := v2) C d_M_matching_2 rfl rfl ?_
    refine r_aload_n (x := (some v0)) C d_M_matching_3 rfl rfl ?_
    replace h := g_ob h; obtain ⟨x1, e_x1, h⟩ := h
    refine r_getR C f_M_39 d_M_matching_4 e_x1 ?_
    refine r_iload_n (x := v1) C d_M_matching_7 rfl rfl ?_
    replace h := g_ob h; obtain ⟨a2, rfl, h⟩ := h
    replace h := g_ob h; obtain ⟨x3, e_x3, h⟩ := h
    refine r_iald C ak_100 d_M_matching_8 e_x3 ?_
    refine r_icmp_ge C 67 d_M_matching_9 (by decide) (fun c4 => ?_) (fun c4 => ?_)
    · rw [if_pos c4] at h
      refine r_iconst C (-1 : Int32) d_M_matching_67 (by decide) ?_
      cases h
      exact r_iret C hr d_M_matching_68
    · rw [if_neg c4] at h
      refine r_iconst C (1 : Int32) d_M_matching_12 (by decide) ?_
      refine r_istore_n (lv' := [(3, tI (1 : Int32)), (0, tR (some v0)), (1, tI v1), (2, tI v2)]) C d_M_matching_13 rfl (by decide) rfl ?_
      refine r_iconst C (0 : Int32) d_M_matching_14 (by decide) ?_
      refine r_istore (lv' := [(4, tI (0 : Int32)), (3, tI (1 : Int32)), (0, tR (some v0)), (1, tI v1), (2, tI v2)]) C d_M_matching_15 (by decide) rfl ?_
      refine r_lv [2, 3, 4, 1, 0] rfl ?_
      exact t_M_matching_17 C hr (D_M_matching_2 L  n) ih 1000 v0 v1 v2 (1 : Int32) (0 : Int32) V h
set_option maxHeartbeats 4000000 in
set_option maxRecDepth 100000 in
theorem t_M_matching_0 (C : gC E bA p s m args meth c b_M_matching R_M 5) (hr : meth.sig.returnType = (some .int)) {z : Int32 × gV} (h0 : Nat) (p1 : Int32) (V : gV) (h : D_M_matching h0 p1 L V = some z) : vW E base bA 5 p l e rm_M_matching s m args below meth c 0 0 (g_MQ E base bA below args s 0 0 L z.2 (some (tI z.1))) L V 0 [(0, tR (some h0)), (1, tI p1)] [] := by
  unfold D_M_matching at h
  refine r_iconst C (0 : Int32) d_M_matching_0 (by decide) ?_
  refine r_istore_n (lv' := [(2, tI (0 : Int32)), (0, tR (some h0)), (1, tI p1)]) C d_M_matching_1 rfl (by decide) rfl ?_
  refine r_lv [1, 2, 0] rfl ?_
  exact t_M_matching_2 C hr  1000 h0 p1 (0 : Int32) V h
theorem c_M_matching (l : Launch) (E : gE) (base bA : Nat) (h0 : Nat) (p1 : Int32) (L : gL) (V : gV) {z : Int32 × gV} (h : D_M_matching h0 p1 L V = some z) : g_Met l E base bA y_M_matching b_M_matching 5 (some .int) rm_M_matching [tR (some h0), tI p1] L V (some (tI z.1)) L z.2 :=
  r_enter R_M (by decide) rfl [tR (some h0), tI p1] [(0, tR (some h0)), (1, tI p1)] rfl (Nat.le_of_ble_eq_true rfl) (fun p e s m args below meth c C hr hnm => t_M_matching_0 C hr h0 p1 V h)
def rm_M_copy : Room := { frames := 1, cells := 0, slots := 0, locals := 21 }
def D_M_copy_43 (L : gL) : Nat → Nat → Int32 → Int32 → Int32 → Int32 → gV → Option (Unit × gV)
  | 0, _, _, _, _, _, _ => none
  | n + 1, v0, v1, v2, v3, v4, V =>
  (if (6 : Int32) ≤ v4 then
    some ((), V)
  else
    Option.bind (g_rR L V 4 v0 15) fun x1 =>
    g_b2 (D_M_record4 v1 v3 L V) fun r2 V3 =>
    Option.bind (g_rR L V3 4 v0 15) fun x4 =>
    g_b2 (D_M_record4 v1 v2 L V3) fun r5 V6 =>
    Option.bind x4 fun a7 =>
    Option.bind (g_aJ L V6 101 a7 (((6 : Int32) * r5) + v4)) fun x8 =>
    Option.bind x1 fun a9 =>
    Option.bind (g_wa L V6 101 a9 (((6 : Int32) * r2) + v4) (tJ x8)) fun V10 =>
    Option.bind (g_rR L V10 4 v0 16) fun x11 =>
    g_b2 (D_M_record4 v1 v3 L V10) fun r12 V13 =>
    Option.bind (g_rR L V13 4 v0 16) fun x14 =>
    g_b2 (D_M_record4 v1 v2 L V13) fun r15 V16 =>
    Option.bind x14 fun a17 =>
    Option.bind (g_aI L V16 102 a17 (((6 : Int32) * r15) + v4)) fun x18 =>
    Option.bind x11 fun a19 =>
    Option.bind (g_bz x18) fun _ =>
    Option.bind (g_wa L V16 102 a19 (((6 : Int32) * r12) + v4) (tI x18)) fun V20 =>
    D_M_copy_43 L  n v0 v1 v2 v3 (v4 + (1 : Int32)) V20)
def D_M_copy (h0 : Nat) (p1 : Int32) (p2 : Int32) (p3 : Int32) (L : gL) (V : gV) : Option (Unit × gV) :=
  Option.bind (g_rR L V 4 h0 14) fun x1 =>
    g_b2 (D_M_record4 p1 p3 L V) fun r2 V3 =>
    Option.bind (g_rR L V3 4 h0 14) fun x4 =>
    g_b2 (D_M_record4 p1 p2 L V3) fun r5 V6 =>
    Option.bind x4 fun a7 =>
    Option.bind (g_aJ L V6 101 a7 r5) fun x8 =>
    Option.bind x1 fun a9 =>
    Option.bind (g_wa L V6 101 a9 r2 (tJ x8)) fun V10 =>
    Option.bind (g_rR L V10 4 h0 13) fun x11 =>
    g_b2 (D_M_record4 p1 p3 L V10) fun r12 V13 =>
    Option.bind (g_rR L V13 4 h0 13) fun x14 =>
    g_b2 (D_M_record4 p1 p2 L V13) fun r15 V16 =>
    Option.bind x14 fun a17 =>
    Option.bind (g_aI L V16 100 a17 r15) fun x18 =>
    Option.bind x11 fun a19 =>
    Option.bind (g_wa L V16 100 a19 r12 (tI x18)) fun V20 =>
    D_M_copy_43 L  1000 h0 p1 p2 p3 (0 : Int32) V20
set_option maxHeartbeats 4000000 in
set_option maxRecDepth 100000 in
theorem t_M_copy_43 (C : gC E base p s m args meth c b_M_copy R_M 5) (hr : meth.sig.returnType = none) {z : Unit × gV} : ∀ (n : Nat) (v0 : Nat) (v1 : Int32) (v2 : Int32) (v3 : Int32) (v4 : Int32) (V : gV), D_M_copy_43 L  n v0 v1 v2 v3 v4 V = some z → vW E base base 5 p l e rm_M_copy s m args below meth c 0 0 (g_MQ E base base below args s 0 0 L z.2 none) L V 43 [(0, tR (some v0)), (1, tI v1), (2, tI v2), (3, tI v3), (4, tI v4)] [] := by
  intro n
  induction n with
  | zero =>
    intro v0 v1 v2 v3 v4 V h
    rw [D_M_copy_43] at h
    cases h
  | succ n ih =>
    intro v0 v1 v2 v3 v4 V h
    rw [D_M_copy_43] at h
    refine r_iload (x := v4) C d_M_copy_43 rfl ?_
    refine r_bipush C (6 : Int32) d_M_copy_45 (by decide) ?_
    refine r_icmp_ge C 120 d_M_copy_47 (by decide) (fun c22 => ?_) (fun c22 => ?_)
    · rw [if_pos c22] at h
      cases h
      exact r_vret C hr d_M_copy_120
    · rw [if_neg c22] at h
      refine r_aload_n (x := (some v0)) C d_M_copy_50 rfl rfl ?_
      replace h := g_ob h; obtain ⟨x1, e_x1, h⟩ := h
      refine r_getR C f_M_48 d_M_copy_51 e_x1 ?_
      refine r_bipush C (6 : Int32) d_M_copy_54 (by decide) ?_
      refine r_iload_n (x := v1) C d_M_copy_56 rfl rfl ?_
      refine r_iload_n (x := v3) C d_M_copy_57 rfl rfl ?_
      replace h := g_o2 h; obtain ⟨r2, V3, e_r2, h⟩ := h
      refine r_callS (As := [tI v1, tI v3]) C k_M_93 w_273 w_271 (c_M_record4 l E base base v1 v3 L V e_r2) d_M_copy_58 rfl ⟨Nat.le_of_ble_eq_true rfl, Nat.le_of_ble_eq_true rfl⟩ (Nat.le_of_ble_eq_true rfl) (Nat.le_of_ble_eq_true rfl) (Nat.le_of_ble_eq_true rfl) rfl ?_
      refine r_imul C d_M_copy_61 ?_
      refine r_iload (x := v4) C d_M_copy_62 rfl ?_
      refine r_iadd C d_M_copy_64 ?_
      refine r_aload_n (x := (some v0)) C d_M_copy_65 rfl rfl ?_
      replace h := g_ob h; obtain ⟨x4, e_x4, h⟩ := h
      refine r_getR C f_M_48 d_M_copy_66 e_x4 ?_
      refine r_bipush C (6 : Int32) d_M_copy_69 (by decide) ?_
      refine r_iload_n (x := v1) C d_M_copy_71 rfl rfl ?_
      refine r_iload_n (x := v2) C d_M_copy_72 rfl rfl ?_
      replace h := g_o2 h; obtain ⟨r5, V6, e_r5, h⟩ := h
      refine r_callS (As := [tI v1, tI v2]) C k_M_93 w_273 w_271 (c_M_record4 l E base base v1 v2 L V3 e_r5) d_M_copy_73 rfl ⟨Nat.le_of_ble_eq_true rfl, Nat.le_of_ble_eq_true rfl⟩ (Nat.le_of_ble_eq_true rfl) (Nat.le_of_ble_eq_true rfl) (Nat.le_of_ble_eq_true rfl) rfl ?_
      refine r_imul C d_M_copy_76 ?_
      refine r_iload (x := v4) C d_M_copy_77 rfl ?_
      refine r_iadd C d_M_copy_79 ?_
      replace h := g_ob h; obtain ⟨a7, rfl, h⟩ := h
      replace h := g_ob h; obtain ⟨x8, e_x8, h⟩ := h
      refine r_lald C ak_101 d_M_copy_80 e_x8 ?_
      replace h := g_ob h; obtain ⟨a9, rfl, h⟩ := h
      replace h := g_ob h; obtain ⟨V10, e_V10, h⟩ := h
      refine r_last C ak_101 d_M_copy_81 e_V10 ?_
      refine r_aload_n (x := (some v0)) C d_M_copy_82 rfl rfl ?_
      replace h := g_ob h; obtain ⟨x11, e_x11, h⟩ := h
      refine r_getR C f_M_51 d_M_copy_83 e_x11 ?_
      refine r_bipush C (6 : Int32) d_M_copy_86 (by decide) ?_
      refine r_iload_n (x := v1) C d_M_copy_88 rfl rfl ?_
      refine r_iload_n (x := v3) C d_M_copy_89 rfl rfl ?_
      replace h := g_o2 h; obtain ⟨r12, V13, e_r12, h⟩ := h
      refine r_callS (As := [tI v1, tI v3]) C k_M_93 w_273 w_271 (c_M_record4 l E base base v1 v3 L V10 e_r12) d_M_copy_90 rfl ⟨Nat.le_of_ble_eq_true rfl, Nat.le_of_ble_eq_true rfl⟩ (Nat.le_of_ble_eq_true rfl) (Nat.le_of_ble_eq_true rfl) (Nat.le_of_ble_eq_true rfl) rfl ?_
      refine r_imul C d_M_copy_93 ?_
      refine r_iload (x := v4) C d_M_copy_94 rfl ?_
      refine r_iadd C d_M_copy_96 ?_
      refine r_aload_n (x := (some v0)) C d_M_copy_97 rfl rfl ?_
      replace h := g_ob h; obtain ⟨x14, e_x14, h⟩ := h
      refine r_getR C f_M_51 d_M_copy_98 e_x14 ?_
      refine r_bipush C (6 : Int32) d_M_copy_101 (by decide) ?_
      refine r_iload_n (x := v1) C d_M_copy_103 rfl rfl ?_
      refine r_iload_n (x := v2) C d_M_copy_104 rfl rfl ?_
      replace h := g_o2 h; obtain ⟨r15, V16, e_r15, h⟩ := h
      refine r_callS (As := [tI v1, tI v2]) C k_M_93 w_273 w_271 (c_M_record4 l E base base v1 v2 L V13 e_r15) d_M_copy_105 rfl ⟨Nat.le_of_ble_eq_true rfl, Nat.le_of_ble_eq_true rfl⟩ (Nat.le_of_ble_eq_true rfl) (Nat.le_of_ble_eq_true rfl) (Nat.le_of_ble_eq_true rfl) rfl ?_
      refine r_imul C d_M_copy_108 ?_
      refine r_iload (x := v4) C d_M_copy_109 rfl ?_
      refine r_iadd C d_M_copy_111 ?_
      replace h := g_ob h; obtain ⟨a17, rfl, h⟩ := h
      replace h := g_ob h; obtain ⟨x18, e_x18, h⟩ := h
      refine r_zald C ak_102 d_M_copy_112 e_x18 ?_
      replace h := g_ob h; obtain ⟨a19, rfl, h⟩ := h
      replace h := g_ob h; obtain ⟨u21, e_u21, h⟩ := h
      replace h := g_ob h; obtain ⟨V20, e_V20, h⟩ := h
      refine r_zast C ak_102 d_M_copy_113 (g_bz_spec e_u21) e_V20 ?_
      refine r_iinc (x := v4) (v := v4 + (1 : Int32)) (lv' := [(4, tI (v4 + (1 : Int32))), (0, tR (some v0)), (1, tI v1), (2, tI v2), (3, tI v3)]) C d_M_copy_114 rfl rfl (by decide) rfl ?_
      refine r_goto C 43 d_M_copy_117 (by decide) ?_
      refine r_lv [1, 2, 3, 4, 0] rfl ?_
      exact ih v0 v1 v2 v3 (v4 + (1 : Int32)) V20 h
set_option maxHeartbeats 4000000 in
set_option maxRecDepth 100000 in
theorem t_M_copy_0 (C : gC E base p s m args meth c b_M_copy R_M 5) (hr : meth.sig.returnType = none) {z : Unit × gV} (h0 : Nat) (p1 : Int32) (p2 : Int32) (p3 : Int32) (V : gV) (h : D_M_copy h0 p1 p2 p3 L V = some z) : vW E base base 5 p l e rm_M_copy s m args below meth c 0 0 (g_MQ E base base below args s 0 0 L z.2 none) L V 0 [(0, tR (some h0)), (1, tI p1), (2, tI p2), (3, tI p3)] [] := by
  unfold D_M_copy at h
  refine r_aload_n (x := (some h0)) C d_M_copy_0 rfl rfl ?_
  replace h := g_ob h; obtain ⟨x1, e_x1, h⟩ := h
  refine r_getR C f_M_45 d_M_copy_1 e_x1 ?_
  refine r_iload_n (x := p1) C d_M_copy_4 rfl rfl ?_
  refine r_iload_n (x := p3) C d_M_copy_5 rfl rfl ?_
  replace h := g_o2 h; obtain ⟨r2, V3, e_r2, h⟩ := h
  refine r_callS (As := [tI p1, tI p3]) C k_M_93 w_273 w_271 (c_M_record4 l E base base p1 p3 L V e_r2) d_M_copy_6 rfl ⟨Nat.le_of_ble_eq_true rfl, Nat.le_of_ble_eq_true rfl⟩ (Nat.le_of_ble_eq_true rfl) (Nat.le_of_ble_eq_true rfl) (Nat.le_of_ble_eq_true rfl) rfl ?_
  refine r_aload_n (x := (some h0)) C d_M_copy_9 rfl rfl ?_
  replace h := g_ob h; obtain ⟨x4, e_x4, h⟩ := h
  refine r_getR C f_M_45 d_M_copy_10 e_x4 ?_
  refine r_iload_n (x := p1) C d_M_copy_13 rfl rfl ?_
  refine r_iload_n (x := p2) C d_M_copy_14 rfl rfl ?_
  replace h := g_o2 h; obtain ⟨r5, V6, e_r5, h⟩ := h
  refine r_callS (As := [tI p1, tI p2]) C k_M_93 w_273 w_271 (c_M_record4 l E base base p1 p2 L V3 e_r5) d_M_copy_15 rfl ⟨Nat.le_of_ble_eq_true rfl, Nat.le_of_ble_eq_true rfl⟩ (Nat.le_of_ble_eq_true rfl) (Nat.le_of_ble_eq_true rfl) (Nat.le_of_ble_eq_true rfl) rfl ?_
  replace h := g_ob h; obtain ⟨a7, rfl, h⟩ := h
  replace h := g_ob h; obtain ⟨x8, e_x8, h⟩ := h
  refine r_lald C ak_101 d_M_copy_18 e_x8 ?_
  replace h := g_ob h; obtain ⟨a9, rfl, h⟩ := h
  replace h := g_ob h; obtain ⟨V10, e_V10, h⟩ := h
  refine r_last C ak_101 d_M_copy_19 e_V10 ?_
  refine r_aload_n (x := (some h0)) C d_M_copy_20 rfl rfl ?_
  replace h := g_ob h; obtain ⟨x11, e_x11, h⟩ := h
  refine r_getR C f_M_42 d_M_copy_21 e_x11 ?_
  refine r_iload_n (x := p1) C d_M_copy_24 rfl rfl ?_
  refine r_iload_n (x := p3) C d_M_copy_25 rfl rfl ?_
  replace h := g_o2 h; obtain ⟨r12, V13, e_r12, h⟩ := h
  refine r_callS (As := [tI p1, tI p3]) C k_M_93 w_273 w_271 (c_M_record4 l E base base p1 p3 L V10 e_r12) d_M_copy_26 rfl ⟨Nat.le_of_ble_eq_true rfl, Nat.le_of_ble_eq_true rfl⟩ (Nat.le_of_ble_eq_true rfl) (Nat.le_of_ble_eq_true rfl) (Nat.le_of_ble_eq_true rfl) rfl ?_
  refine r_aload_n (x := (some h0)) C d_M_copy_29 rfl rfl ?_
  replace h := g_ob h; obtain ⟨x14, e_x14, h⟩ := h
  refine r_getR C f_M_42 d_M_copy_30 e_x14 ?_
  refine r_iload_n (x := p1) C d_M_copy_33 rfl rfl ?_
  refine r_iload_n (x := p2) C d_M_copy_34 rfl rfl ?_
  replace h := g_o2 h; obtain ⟨r15, V16, e_r15, h⟩ := h
  refine r_callS (As := [tI p1, tI p2]) C k_M_93 w_273 w_271 (c_M_record4 l E base base p1 p2 L V13 e_r15) d_M_copy_35 rfl ⟨Nat.le_of_ble_eq_true rfl, Nat.le_of_ble_eq_true rfl⟩ (Nat.le_of_ble_eq_true rfl) (Nat.le_of_ble_eq_true rfl) (Nat.le_of_ble_eq_true rfl) rfl ?_
  replace h := g_ob h; obtain ⟨a17, rfl, h⟩ := h
  replace h := g_ob h; obtain ⟨x18, e_x18, h⟩ := h
  refine r_iald C ak_100 d_M_copy_38 e_x18 ?_
  replace h := g_ob h; obtain ⟨a19, rfl, h⟩ := h
  replace h := g_ob h; obtain ⟨V20, e_V20, h⟩ := h
  refine r_iast C ak_100 d_M_copy_39 e_V20 ?_
  refine r_iconst C (0 : Int32) d_M_copy_40 (by decide) ?_
  refine r_istore (lv' := [(4, tI (0 : Int32)), (0, tR (some h0)), (1, tI p1), (2, tI p2), (3, tI p3)]) C d_M_copy_41 (by decide) rfl ?_
  refine r_lv [1, 2, 3, 4, 0] rfl ?_
  exact t_M_copy_43 C hr  1000 h0 p1 p2 p3 (0 : Int32) V20 h
theorem c_M_copy (l : Launch) (E : gE) (base : Nat) (h0 : Nat) (p1 : Int32) (p2 : Int32) (p3 : Int32) (L : gL) (V : gV) {z : Unit × gV} (h : D_M_copy h0 p1 p2 p3 L V = some z) : g_Met l E base base y_M_copy b_M_copy 5 none rm_M_copy [tR (some h0), tI p1, tI p2, tI p3] L V none L z.2 :=
  r_enter R_M (by decide) rfl [tR (some h0), tI p1, tI p2, tI p3] [(0, tR (some h0)), (1, tI p1), (2, tI p2), (3, tI p3)] rfl (Nat.le_of_ble_eq_true rfl) (fun p e s m args below meth c C hr hnm => t_M_copy_0 C hr h0 p1 p2 p3 V h)
def rm_M_moveBack : Room := { frames := 2, cells := 0, slots := 0, locals := 45 }
def D_M_moveBack_2 (L : gL) : Nat → Nat → Int32 → Int32 → gV → Option (Unit × gV)
  | 0, _, _, _, _ => none
  | n + 1, v0, v1, v3, V =>
  (if v3 ≤ 0 then
    some ((), V)
  else
    Option.bind ((L).2 4 v0) fun n3 =>
    g_b2 (D_M_copy v0 v1 (v3 - (1 : Int32)) v3 L V) fun r1 V2 =>
    D_M_moveBack_2 L  n v0 v1 (v3 + (-1 : Int32)) V2)
def D_M_moveBack (h0 : Nat) (p1 : Int32) (p2 : Int32) (L : gL) (V : gV) : Option (Unit × gV) :=
  D_M_moveBack_2 L  1000 h0 p1 p2 V
set_option maxHeartbeats 4000000 in
set_option maxRecDepth 100000 in
theorem t_M_moveBack_2 (C : gC E base p s m args meth c b_M_moveBack R_M 4) (hr : meth.sig.returnType = none) {z : Unit × gV} : ∀ (n : Nat) (v0 : Nat) (v1 : Int32) (v3 : Int32) (V : gV), D_M_moveBack_2 L  n v0 v1 v3 V = some z → vW E base base 4 p l e rm_M_moveBack s m args below meth c 0 0 (g_MQ E base base below args s 0 0 L z.2 none) L V 2 [(0, tR (some v0)), (1, tI v1), (3, tI v3)] [] := by
  intro n
  induction n with
  | zero =>
    intro v0 v1 v3 V h
    rw [D_M_moveBack_2] at h
    cases h
  | succ n ih =>
    intro v0 v1 v3 V h
    rw [D_M_moveBack_2] at h
    refine r_iload_n (x := v3) C d_M_moveBack_2 rfl rfl ?_
    refine r_if_le C 21 d_M_moveBack_3 (by decide) (fun c4 => ?_) (fun c4 => ?_)
    · rw [if_pos c4] at h
      cases h
      exact r_vret C hr d_M_moveBack_21
    · rw [if_neg c4] at h
      refine r_aload_n (x := (some v0)) C d_M_moveBack_6 rfl rfl ?_
      refine r_iload_n (x := v1) C d_M_moveBack_7 rfl rfl ?_
      refine r_iload_n (x := v3) C d_M_moveBack_8 rfl rfl ?_
      refine r_iconst C (1 : Int32) d_M_moveBack_9 (by decide) ?_
      refine r_isub C d_M_moveBack_10 ?_
      refine r_iload_n (x := v3) C d_M_moveBack_11 rfl rfl ?_
      replace h := g_ob h; obtain ⟨n3, e_n3, h⟩ := h
      replace h := g_o2 h; obtain ⟨r1, V2, e_r1, h⟩ := h
      refine r_callV (As := [tI v1, tI (v3 - (1 : Int32)), tI v3]) C k_M_114 w_296 w_297 w_294 ⟨_, _, rfl⟩ (c_M_copy l E base v0 v1 (v3 - (1 : Int32)) v3 L V e_r1) d_M_moveBack_12 e_n3 rfl ⟨Nat.le_of_ble_eq_true rfl, Nat.le_of_ble_eq_true rfl⟩ (Nat.le_of_ble_eq_true rfl) (Nat.le_of_ble_eq_true rfl) (Nat.le_of_ble_eq_true rfl) rfl ?_
      refine r_iinc (x := v3) (v := v3 + (-1 : Int32)) (lv' := [(3, tI (v3 + (-1 : Int32))), (0, tR (some v0)), (1, tI v1)]) C d_M_moveBack_15 rfl rfl (by decide) rfl ?_
      refine r_goto C 2 d_M_moveBack_18 (by decide) ?_
      refine r_lv [1, 2, 0] rfl ?_
      exact ih v0 v1 (v3 + (-1 : Int32)) V2 h
set_option maxHeartbeats 4000000 in
set_option maxRecDepth 100000 in
theorem t_M_moveBack_0 (C : gC E base p s m args meth c b_M_moveBack R_M 4) (hr : meth.sig.returnType = none) {z : Unit × gV} (h0 : Nat) (p1 : Int32) (p2 : Int32) (V : gV) (h : D_M_moveBack h0 p1 p2 L V = some z) : vW E base base 4 p l e rm_M_moveBack s m args below meth c 0 0 (g_MQ E base base below args s 0 0 L z.2 none) L V 0 [(0, tR (some h0)), (1, tI p1), (2, tI p2)] [] := by
  unfold D_M_moveBack at h
  refine r_iload_n (x := p2) C d_M_moveBack_0 rfl rfl ?_
  refine r_istore_n (lv' := [(3, tI p2), (0, tR (some h0)), (1, tI p1), (2, tI p2)]) C d_M_moveBack_1 rfl (by decide) rfl ?_
  refine r_lv [1, 2, 0] rfl ?_
  exact t_M_moveBack_2 C hr  1000 h0 p1 p2 V h
theorem c_M_moveBack (l : Launch) (E : gE) (base : Nat) (h0 : Nat) (p1 : Int32) (p2 : Int32) (L : gL) (V : gV) {z : Unit × gV} (h : D_M_moveBack h0 p1 p2 L V = some z) : g_Met l E base base y_M_moveBack b_M_moveBack 4 none rm_M_moveBack [tR (some h0), tI p1, tI p2] L V none L z.2 :=
  r_enter R_M (by decide) rfl [tR (some h0), tI p1, tI p2] [(0, tR (some h0)), (1, tI p1), (2, tI p2)] rfl (Nat.le_of_ble_eq_true rfl) (fun p e s m args below meth c C hr hnm => t_M_moveBack_0 C hr h0 p1 p2 V h)
def rm_M_bring : Room := { frames := 3, cells := 0, slots := 0, locals := 68 }
def D_M_bring (h0 : Nat) (p1 : Int32) (p2 : Int32) (L : gL) (V : gV) : Option (Unit × gV) :=
  Option.bind ((L).2 4 h0) fun n9 =>
    g_b2 (D_M_copy h0 p1 p2 (3 : Int32) L V) fun r1 V2 =>
    Option.bind ((L).2 4 h0) fun n8 =>
    g_b2 (D_M_moveBack h0 p1 p2 L V2) fun r3 V4 =>
    Option.bind ((L).2 4 h0) fun n7 =>
    g_b2 (D_M_copy h0 p1 (3 : Int32) (0 : Int32) L V4) fun r5 V6 =>
    some ((), V6)
set_option maxHeartbeats 4000000 in
set_option maxRecDepth 100000 in
theorem t_M_bring_0 (C : gC E base p s m args meth c b_M_bring R_M 3) (hr : meth.sig.returnType = none) {z : Unit × gV} (h0 : Nat) (p1 : Int32) (p2 : Int32) (V : gV) (h : D_M_bring h0 p1 p2 L V = some z) : vW E base base 3 p l e rm_M_bring s m args below meth c 0 0 (g_MQ E base base below args s 0 0 L z.2 none) L V 0 [(0, tR (some h0)), (1, tI p1), (2, tI p2)] [] := by
  unfold D_M_bring at h
  refine r_aload_n (x := (some h0)) C d_M_bring_0 rfl rfl ?_
  refine r_iload_n (x := p1) C d_M_bring_1 rfl rfl ?_
  refine r_iload_n (x := p2) C d_M_bring_2 rfl rfl ?_
  refine r_iconst C (3 : Int32) d_M_bring_3 (by decide) ?_
  replace h := g_ob h; obtain ⟨n9, e_n9, h⟩ := h
  replace h := g_o2 h; obtain ⟨r1, V2, e_r1, h⟩ := h
  refine r_callV (As := [tI p1, tI p2, tI (3 : Int32)]) C k_M_114 w_296 w_297 w_294 ⟨_, _, rfl⟩ (c_M_copy l E base h0 p1 p2 (3 : Int32) L V e_r1) d_M_bring_4 e_n9 rfl ⟨Nat.le_of_ble_eq_true rfl, Nat.le_of_ble_eq_true rfl⟩ (Nat.le_of_ble_eq_true rfl) (Nat.le_of_ble_eq_true rfl) (Nat.le_of_ble_eq_true rfl) rfl ?_
  refine r_aload_n (x := (some h0)) C d_M_bring_7 rfl rfl ?_
  refine r_iload_n (x := p1) C d_M_bring_8 rfl rfl ?_
  refine r_iload_n (x := p2) C d_M_bring_9 rfl rfl ?_
  replace h := g_ob h; obtain ⟨n8, e_n8, h⟩ := h
  replace h := g_o2 h; obtain ⟨r3, V4, e_r3, h⟩ := h
  refine r_callV (As := [tI p1, tI p2]) C k_M_118 w_300 w_301 w_298 ⟨_, _, rfl⟩ (c_M_moveBack l E base h0 p1 p2 L V2 e_r3) d_M_bring_10 e_n8 rfl ⟨Nat.le_of_ble_eq_true rfl, Nat.le_of_ble_eq_true rfl⟩ (Nat.le_of_ble_eq_true rfl) (Nat.le_of_ble_eq_true rfl) (Nat.le_of_ble_eq_true rfl) rfl ?_
  refine r_aload_n (x := (some h0)) C d_M_bring_13 rfl rfl ?_
  refine r_iload_n (x := p1) C d_M_bring_14 rfl rfl ?_
  refine r_iconst C (3 : Int32) d_M_bring_15 (by decide) ?_
  refine r_iconst C (0 : Int32) d_M_bring_16 (by decide) ?_
  replace h := g_ob h; obtain ⟨n7, e_n7, h⟩ := h
  replace h := g_o2 h; obtain ⟨r5, V6, e_r5, h⟩ := h
  refine r_callV (As := [tI p1, tI (3 : Int32), tI (0 : Int32)]) C k_M_114 w_296 w_297 w_294 ⟨_, _, rfl⟩ (c_M_copy l E base h0 p1 (3 : Int32) (0 : Int32) L V4 e_r5) d_M_bring_17 e_n7 rfl ⟨Nat.le_of_ble_eq_true rfl, Nat.le_of_ble_eq_true rfl⟩ (Nat.le_of_ble_eq_true rfl) (Nat.le_of_ble_eq_true rfl) (Nat.le_of_ble_eq_true rfl) rfl ?_
  cases h
  exact r_vret C hr d_M_bring_20
theorem c_M_bring (l : Launch) (E : gE) (base : Nat) (h0 : Nat) (p1 : Int32) (p2 : Int32) (L : gL) (V : gV) {z : Unit × gV} (h : D_M_bring h0 p1 p2 L V = some z) : g_Met l E base base y_M_bring b_M_bring 3 none rm_M_bring [tR (some h0), tI p1, tI p2] L V none L z.2 :=
  r_enter R_M (by decide) rfl [tR (some h0), tI p1, tI p2] [(0, tR (some h0)), (1, tI p1), (2, tI p2)] rfl (Nat.le_of_ble_eq_true rfl) (fun p e s m args below meth c C hr hnm => t_M_bring_0 C hr h0 p1 p2 V h)
def rm_M_hasOutput : Room := { frames := 1, cells := 0, slots := 0, locals := 21 }
def D_M_hasOutput (h0 : Nat) (p1 : Int32) (L : gL) (V : gV) : Option (Int32 × gV) :=
  Option.bind (g_rR L V 4 h0 12) fun x1 =>
    Option.bind x1 fun a2 =>
    Option.bind (g_aI L V 100 a2 p1) fun x3 =>
    (if x3 ≤ 0 then
    some ((0 : Int32), V)
  else
    Option.bind (g_rR L V 4 h0 13) fun x4 =>
    g_b2 (D_M_record4 p1 (0 : Int32) L V) fun r5 V6 =>
    Option.bind x4 fun a7 =>
    Option.bind (g_aI L V6 100 a7 r5) fun x8 =>
    (if x8 = (-1 : Int32) then
    some ((1 : Int32), V6)
  else
    some ((0 : Int32), V6)))
set_option maxHeartbeats 4000000 in
set_option maxRecDepth 100000 in
theorem t_M_hasOutput_0 (C : gC E bA p s m args meth c b_M_hasOutput R_M 2) (hr : meth.sig.returnType = (some .boolean)) {z : Int32 × gV} (h0 : Nat) (p1 : Int32) (V : gV) (h : D_M_hasOutput h0 p1 L V = some z) : vW E base bA 2 p l e rm_M_hasOutput s m args below meth c 0 0 (g_MQ E base bA below args s 0 0 L z.2 (some (tI z.1))) L V 0 [(0, tR (some h0)), (1, tI p1)] [] := by
  unfold D_M_hasOutput at h
  refine r_aload_n (x := (some h0)) C d_M_hasOutput_0 rfl rfl ?_
  replace h := g_ob h; obtain ⟨x1, e_x1, h⟩ := h
  refine r_getR C f_M_39 d_M_hasOutput_1 e_x1 ?_
  refine r_iload_n (x := p1) C d_M_hasOutput_4 rfl rfl ?_
  replace h := g_ob h; obtain ⟨a2, rfl, h⟩ := h
  replace h := g_ob h; obtain ⟨x3, e_x3, h⟩ := h
  refine r_iald C ak_100 d_M_hasOutput_5 e_x3 ?_
  refine r_if_le C 27 d_M_hasOutput_6 (by decide) (fun c10 => ?_) (fun c10 => ?_)
  · rw [if_pos c10] at h
    refine r_iconst C (0 : Int32) d_M_hasOutput_27 (by decide) ?_
    cases h
    exact r_zret C hr d_M_hasOutput_28 (Or.inl rfl)
  · rw [if_neg c10] at h
    refine r_aload_n (x := (some h0)) C d_M_hasOutput_9 rfl rfl ?_
    replace h := g_ob h; obtain ⟨x4, e_x4, h⟩ := h
    refine r_getR C f_M_42 d_M_hasOutput_10 e_x4 ?_
    refine r_iload_n (x := p1) C d_M_hasOutput_13 rfl rfl ?_
    refine r_iconst C (0 : Int32) d_M_hasOutput_14 (by decide) ?_
    replace h := g_o2 h; obtain ⟨r5, V6, e_r5, h⟩ := h
    refine r_callS (As := [tI p1, tI (0 : Int32)]) C k_M_93 w_273 w_271 (c_M_record4 l E base bA p1 (0 : Int32) L V e_r5) d_M_hasOutput_15 rfl ⟨Nat.le_of_ble_eq_true rfl, Nat.le_of_ble_eq_true rfl⟩ (Nat.le_of_ble_eq_true rfl) (Nat.le_of_ble_eq_true rfl) (Nat.le_of_ble_eq_true rfl) rfl ?_
    replace h := g_ob h; obtain ⟨a7, rfl, h⟩ := h
    replace h := g_ob h; obtain ⟨x8, e_x8, h⟩ := h
    refine r_iald C ak_100 d_M_hasOutput_18 e_x8 ?_
    refine r_iconst C (-1 : Int32) d_M_hasOutput_19 (by decide) ?_
    refine r_icmp_ne C 27 d_M_hasOutput_20 (by decide) (fun c9 => ?_) (fun c9 => ?_)
    · rw [if_neg c9] at h
      refine r_iconst C (0 : Int32) d_M_hasOutput_27 (by decide) ?_
      cases h
      exact r_zret C hr d_M_hasOutput_28 (Or.inl rfl)
    · rw [if_pos c9] at h
      refine r_iconst C (1 : Int32) d_M_hasOutput_23 (by decide) ?_
      refine r_goto C 28 d_M_hasOutput_24 (by decide) ?_
      cases h
      exact r_zret C hr d_M_hasOutput_28 (Or.inr rfl)
theorem c_M_hasOutput (l : Launch) (E : gE) (base bA : Nat) (h0 : Nat) (p1 : Int32) (L : gL) (V : gV) {z : Int32 × gV} (h : D_M_hasOutput h0 p1 L V = some z) : g_Met l E base bA y_M_hasOutput b_M_hasOutput 2 (some .boolean) rm_M_hasOutput [tR (some h0), tI p1] L V (some (tI z.1)) L z.2 :=
  r_enter R_M (by decide) rfl [tR (some h0), tI p1] [(0, tR (some h0)), (1, tI p1)] rfl (Nat.le_of_ble_eq_true rfl) (fun p e s m args below meth c C hr hnm => t_M_hasOutput_0 C hr h0 p1 V h)
def rm_M_take : Room := { frames := 1, cells := 0, slots := 0, locals := 22 }
def D_M_take_106 (L : gL) (K7 : Nat → Int32 → Int32 → gV → Option (Unit × gV)) (K35 : Nat → Int32 → Int32 → Int32 → gV → Option (Unit × gV)) (K46 : Nat → Int32 → Int32 → Int32 → Int32 → gV → Option (Unit × gV)) (v0 : Nat) (v1 : Int32) (v2 : Int32) (v3 : Int32) (v4 : Int32) (s0 : Int32) (s1 : Option Nat) (V : gV) : Option (Unit × gV) :=
  Option.bind s1 fun a1 =>
    Option.bind (g_wa L V 102 a1 s0 (tI (1 : Int32))) fun V2 =>
    K46 v0 v1 v2 v3 (v4 + (1 : Int32)) V2
def D_M_take_46 (L : gL) (K7 : Nat → Int32 → Int32 → gV → Option (Unit × gV)) (K35 : Nat → Int32 → Int32 → Int32 → gV → Option (Unit × gV)) : Nat → Nat → Int32 → Int32 → Int32 → Int32 → gV → Option (Unit × gV)
  | 0, _, _, _, _, _, _ => none
  | n + 1, v0, v1, v2, v3, v4, V =>
  Option.bind (g_rR L V 4 v0 9) fun x1 =>
    Option.bind x1 fun a2 =>
    Option.bind (g_aI L V 100 a2 v3) fun x3 =>
    (if x3 ≤ v4 then
    K35 v0 v1 v2 (v3 + (1 : Int32)) V
  else
    Option.bind (g_rR L V 4 v0 21) fun x4 =>
    Option.bind (g_rR L V 4 v0 21) fun x5 =>
    Option.bind x5 fun a6 =>
    Option.bind (g_aI L V 102 a6 v2) fun x7 =>
    (if x7 = 0 then
    Option.bind (g_rR L V 4 v0 21) fun x8 =>
    Option.bind x8 fun a9 =>
    Option.bind (g_aI L V 102 a9 v3) fun x10 =>
    (if x10 = 0 then
    Option.bind x4 fun a11 =>
    Option.bind (g_wa L V 102 a11 v2 (tI (0 : Int32))) fun V12 =>
    D_M_take_46 L K7 K35 n v0 v1 v2 v3 (v4 + (1 : Int32)) V12
  else
    Option.bind ((L).2 4 v0) fun n24 =>
    g_b2 (D_M_isFileRead v0 v3 v4 L V) fun r13 V14 =>
    (if r13 = 0 then
    Option.bind (g_rR L V14 4 v0 10) fun x17 =>
    Option.bind x17 fun a18 =>
    Option.bind (g_aI L V14 100 a18 (((6 : Int32) * v3) + v4)) fun x19 =>
    (if x19 = v2 then
    D_M_take_106 L K7 K35 (D_M_take_46 L K7 K35 n) v0 v1 v2 v3 v4 v2 x4 V14
  else
    Option.bind x4 fun a20 =>
    Option.bind (g_wa L V14 102 a20 v2 (tI (0 : Int32))) fun V21 =>
    D_M_take_46 L K7 K35 n v0 v1 v2 v3 (v4 + (1 : Int32)) V21)
  else
    Option.bind x4 fun a15 =>
    Option.bind (g_wa L V14 102 a15 v2 (tI (0 : Int32))) fun V16 =>
    D_M_take_46 L K7 K35 n v0 v1 v2 v3 (v4 + (1 : Int32)) V16))
  else
    D_M_take_106 L K7 K35 (D_M_take_46 L K7 K35 n) v0 v1 v2 v3 v4 v2 x4 V))
def D_M_take_35 (L : gL) (K7 : Nat → Int32 → Int32 → gV → Option (Unit × gV)) : Nat → Nat → Int32 → Int32 → Int32 → gV → Option (Unit × gV)
  | 0, _, _, _, _, _ => none
  | n + 1, v0, v1, v2, v3, V =>
  Option.bind (g_rI L V 4 v0 2) fun x1 =>
    (if x1 ≤ v3 then
    K7 v0 v1 (v2 + (-1 : Int32)) V
  else
    D_M_take_46 L K7 (D_M_take_35 L K7 n) 1000 v0 v1 v2 v3 (0 : Int32) V)
def D_M_take_7 (L : gL) : Nat → Nat → Int32 → Int32 → gV → Option (Unit × gV)
  | 0, _, _, _, _ => none
  | n + 1, v0, v1, v2, V =>
  (if v2 < 0 then
    some ((), V)
  else
    Option.bind (g_rR L V 4 v0 21) fun x1 =>
    (if ((v1 >>> (v2 &&& 31)) &&& (1 : Int32)) = (1 : Int32) then
    Option.bind x1 fun a4 =>
    Option.bind (g_wa L V 102 a4 v2 (tI (1 : Int32))) fun V5 =>
    D_M_take_35 L (D_M_take_7 L  n) 1000 v0 v1 v2 (v2 + (1 : Int32)) V5
  else
    Option.bind x1 fun a2 =>
    Option.bind (g_wa L V 102 a2 v2 (tI (0 : Int32))) fun V3 =>
    D_M_take_35 L (D_M_take_7 L  n) 1000 v0 v1 v2 (v2 + (1 : Int32)) V3))
def D_M_take (h0 : Nat) (p1 : Int32) (L : gL) (V : gV) : Option (Unit × gV) :=
  Option.bind (g_rI L V 4 h0 2) fun x1 =>
    D_M_take_7 L  1000 h0 p1 (x1 - (1 : Int32)) V
set_option maxHeartbeats 4000000 in
set_option maxRecDepth 100000 in
theorem t_M_take_106 (C : gC E base p s m args meth c b_M_take R_M 5) (hr : meth.sig.returnType = none) {z : Unit × gV} (K7 : Nat → Int32 → Int32 → gV → Option (Unit × gV)) (hK7 : ∀ (v0 : Nat) (v1 : Int32) (v2 : Int32) (V : gV), K7 v0 v1 v2 V = some z → vW E base base 5 p l e rm_M_take s m args below meth c 0 0 (g_MQ E base base below args s 0 0 L z.2 none) L V 7 [(0, tR (some v0)), (1, tI v1), (2, tI v2)] []) (K35 : Nat → Int32 → Int32 → Int32 → gV → Option (Unit × gV)) (hK35 : ∀ (v0 : Nat) (v1 : Int32) (v2 : Int32) (v3 : Int32) (V : gV), K35 v0 v1 v2 v3 V = some z → vW E base base 5 p l e rm_M_take s m args below meth c 0 0 (g_MQ E base base below args s 0 0 L z.2 none) L V 35 [(0, tR (some v0)), (1, tI v1), (2, tI v2), (3, tI v3)] []) (K46 : Nat → Int32 → Int32 → Int32 → Int32 → gV → Option (Unit × gV)) (hK46 : ∀ (v0 : Nat) (v1 : Int32) (v2 : Int32) (v3 : Int32) (v4 : Int32) (V : gV), K46 v0 v1 v2 v3 v4 V = some z → vW E base base 5 p l e rm_M_take s m args below meth c 0 0 (g_MQ E base base below args s 0 0 L z.2 none) L V 46 [(0, tR (some v0)), (1, tI v1), (2, tI v2), (3, tI v3), (4, tI v4)] []) (v0 : Nat) (v1 : Int32) (v2 : Int32) (v3 : Int32) (v4 : Int32) (s0 : Int32) (s1 : Option Nat) (V : gV) (h : D_M_take_106 L K7 K35 K46 v0 v1 v2 v3 v4 s0 s1 V = some z) : vW E base base 5 p l e rm_M_take s m args below meth c 0 0 (g_MQ E base base below args s 0 0 L z.2 none) L V 106 [(0, tR (some v0)), (1, tI v1), (2, tI v2), (3, tI v3), (4, tI v4)] [tI s0, tR s1] := by
  unfold D_M_take_106 at h
  refine r_iconst C (1 : Int32) d_M_take_106 (by decide) ?_
  refine r_goto C 111 d_M_take_107 (by decide) ?_
  replace h := g_ob h; obtain ⟨a1, rfl, h⟩ := h
  replace h := g_ob h; obtain ⟨V2, e_V2, h⟩ := h
  refine r_zast C ak_102 d_M_take_111 (Or.inr rfl) e_V2 ?_
  refine r_iinc (x := v4) (v := v4 + (1 : Int32)) (lv' := [(4, tI (v4 + (1 : Int32))), (0, tR (some v0)), (1, tI v1), (2, tI v2), (3, tI v3)]) C d_M_take_112 rfl rfl (by decide) rfl ?_
  refine r_goto C 46 d_M_take_115 (by decide) ?_
  refine r_lv [1, 2, 3, 4, 0] rfl ?_
  exact hK46 v0 v1 v2 v3 (v4 + (1 : Int32)) V2 h
set_option maxHeartbeats 4000000 in
set_option maxRecDepth 100000 in
theorem t_M_take_46 (C : gC E base p s m args meth c b_M_take R_M 5) (hr : meth.sig.returnType = none) {z : Unit × gV} (K7 : Nat → Int32 → Int32 → gV → Option (Unit × gV)) (hK7 : ∀ (v0 : Nat) (v1 : Int32) (v2 : Int32) (V : gV), K7 v0 v1 v2 V = some z → vW E base base 5 p l e rm_M_take s m args below meth c 0 0 (g_MQ E base base below args s 0 0 L z.2 none) L V 7 [(0, tR (some v0)), (1, tI v1), (2, tI v2)] []) (K35 : Nat → Int32 → Int32 → Int32 → gV → Option (Unit × gV)) (hK35 : ∀ (v0 : Nat) (v1 : Int32) (v2 : Int32) (v3 : Int32) (V : gV), K35 v0 v1 v2 v3 V = some z → vW E base base 5 p l e rm_M_take s m args below meth c 0 0 (g_MQ E base base below args s 0 0 L z.2 none) L V 35 [(0, tR (some v0)), (1, tI v1), (2, tI v2), (3, tI v3)] []) : ∀ (n : Nat) (v0 : Nat) (v1 : Int32) (v2 : Int32) (v3 : Int32) (v4 : Int32) (V : gV), D_M_take_46 L K7 K35 n v0 v1 v2 v3 v4 V = some z → vW E base base 5 p l e rm_M_take s m args below meth c 0 0 (g_MQ E base base below args s 0 0 L z.2 none) L V 46 [(0, tR (some v0)), (1, tI v1), (2, tI v2), (3, tI v3), (4, tI v4)] [] := by
  intro n
  induction n with
  | zero =>
    intro v0 v1 v2 v3 v4 V h
    rw [D_M_take_46] at h
    cases h
  | succ n ih =>
    intro v0 v1 v2 v3 v4 V h
    rw [D_M_take_46] at h
    refine r_iload (x := v4) C d_M_take_46 rfl ?_
    refine r_aload_n (x := (some v0)) C d_M_take_48 rfl rfl ?_
    replace h := g_ob h; obtain ⟨x1, e_x1, h⟩ := h
    refine r_getR C f_M_30 d_M_take_49 e_x1 ?_
    refine r_iload_n (x := v3) C d_M_take_52 rfl rfl ?_
    replace h := g_ob h; obtain ⟨a2, rfl, h⟩ := h
    replace h := g_ob h; obtain ⟨x3, e_x3, h⟩ := h
    refine r_iald C ak_100 d_M_take_53 e_x3 ?_
    refine r_icmp_ge C 118 d_M_take_54 (by decide) (fun c27 => ?_) (fun c27 => ?_)
    · rw [if_pos c27] at h
      refine r_iinc (x := v3) (v := v3 + (1 : Int32)) (lv' := [(3, tI (v3 + (1 : Int32))), (0, tR (some v0)), (1, tI v1), (2, tI v2), (4, tI v4)]) C d_M_take_118 rfl rfl (by decide) rfl ?_
      refine r_goto C 35 d_M_take_121 (by decide) ?_
      refine r_lv [1, 2, 3, 0] rfl ?_
      exact hK35 v0 v1 v2 (v3 + (1 : Int32)) V h
    · rw [if_neg c27] at h
      refine r_aload_n (x := (some v0)) C d_M_take_57 rfl rfl ?_
      replace h := g_ob h; obtain ⟨x4, e_x4, h⟩ := h
      refine r_getR C f_M_66 d_M_take_58 e_x4 ?_
      refine r_iload_n (x := v2) C d_M_take_61 rfl rfl ?_
      refine r_aload_n (x := (some v0)) C d_M_take_62 rfl rfl ?_
      replace h := g_ob h; obtain ⟨x5, e_x5, h⟩ := h
      refine r_getR C f_M_66 d_M_take_63 e_x5 ?_
      refine r_iload_n (x := v2) C d_M_take_66 rfl rfl ?_
      replace h := g_ob h; obtain ⟨a6, rfl, h⟩ := h
      replace h := g_ob h; obtain ⟨x7, e_x7, h⟩ := h
      refine r_zald C ak_102 d_M_take_67 e_x7 ?_
      refine r_if_ne C 106 d_M_take_68 (by decide) (fun c26 => ?_) (fun c26 => ?_)
      · rw [if_neg c26] at h
        exact t_M_take_106 C hr K7 hK7 K35 hK35 (D_M_take_46 L K7 K35 n) ih v0 v1 v2 v3 v4 v2 x4 V h
      · rw [if_pos c26] at h
        refine r_aload_n (x := (some v0)) C d_M_take_71 rfl rfl ?_
        replace h := g_ob h; obtain ⟨x8, e_x8, h⟩ := h
        refine r_getR C f_M_66 d_M_take_72 e_x8 ?_
        refine r_iload_n (x := v3) C d_M_take_75 rfl rfl ?_
        replace h := g_ob h; obtain ⟨a9, rfl, h⟩ := h
        replace h := g_ob h; obtain ⟨x10, e_x10, h⟩ := h
        refine r_zald C ak_102 d_M_take_76 e_x10 ?_
        refine r_if_eq C 110 d_M_take_77 (by decide) (fun c25 => ?_) (fun c25 => ?_)
        · rw [if_pos c25] at h
          refine r_iconst C (0 : Int32) d_M_take_110 (by decide) ?_
          replace h := g_ob h; obtain ⟨a11, rfl, h⟩ := h
          replace h := g_ob h; obtain ⟨V12, e_V12, h⟩ := h
          refine r_zast C ak_102 d_M_take_111 (Or.inl rfl) e_V12 ?_
          refine r_iinc (x := v4) (v := v4 + (1 : Int32)) (lv' := [(4, tI (v4 + (1 : Int32))), (0, tR (some v0)), (1, tI v1), (2, tI v2), (3, tI v3)]) C d_M_take_112 rfl rfl (by decide) rfl ?_
          refine r_goto C 46 d_M_take_115 (by decide) ?_
          refine r_lv [1, 2, 3, 4, 0] rfl ?_
          exact ih v0 v1 v2 v3 (v4 + (1 : Int32)) V12 h
        · rw [if_neg c25] at h
          refine r_aload_n (x := (some v0)) C d_M_take_80 rfl rfl ?_
          refine r_iload_n (x := v3) C d_M_take_81 rfl rfl ?_
          refine r_iload (x := v4) C d_M_take_82 rfl ?_
          replace h := g_ob h; obtain ⟨n24, e_n24, h⟩ := h
          replace h := g_o2 h; obtain ⟨r13, V14, e_r13, h⟩ := h
          refine r_callV (As := [tI v3, tI v4]) C k_M_97 w_280 w_281 w_274 ⟨_, _, rfl⟩ (c_M_isFileRead l E base base v0 v3 v4 L V e_r13) d_M_take_84 e_n24 rfl ⟨Nat.le_of_ble_eq_true rfl, Nat.le_of_ble_eq_true rfl⟩ (Nat.le_of_ble_eq_true rfl) (Nat.le_of_ble_eq_true rfl) (Nat.le_of_ble_eq_true rfl) rfl ?_
          refine r_if_ne C 110 d_M_take_87 (by decide) (fun c23 => ?_) (fun c23 => ?_)
          · rw [if_neg c23] at h
            refine r_iconst C (0 : Int32) d_M_take_110 (by decide) ?_
            replace h := g_ob h; obtain ⟨a15, rfl, h⟩ := h
            replace h := g_ob h; obtain ⟨V16, e_V16, h⟩ := h
            refine r_zast C ak_102 d_M_take_111 (Or.inl rfl) e_V16 ?_
            refine r_iinc (x := v4) (v := v4 + (1 : Int32)) (lv' := [(4, tI (v4 + (1 : Int32))), (0, tR (some v0)), (1, tI v1), (2, tI v2), (3, tI v3)]) C d_M_take_112 rfl rfl (by decide) rfl ?_
            refine r_goto C 46 d_M_take_115 (by decide) ?_
            refine r_lv [1, 2, 3, 4, 0] rfl ?_
            exact ih v0 v1 v2 v3 (v4 + (1 : Int32)) V16 h
          · rw [if_pos c23] at h
            refine r_aload_n (x := (some v0)) C d_M_take_90 rfl rfl ?_
            replace h := g_ob h; obtain ⟨x17, e_x17, h⟩ := h
            refine r_getR C f_M_33 d_M_take_91 e_x17 ?_
            refine r_bipush C (6 : Int32) d_M_take_94 (by decide) ?_
            refine r_iload_n (x := v3) C d_M_take_96 rfl rfl ?_
            refine r_imul C d_M_take_97 ?_
            refine r_iload (x := v4) C d_M_take_98 rfl ?_
            refine r_iadd C d_M_take_100 ?_
            replace h := g_ob h; obtain ⟨a18, rfl, h⟩ := h
            replace h := g_ob h; obtain ⟨x19, e_x19, h⟩ := h
            refine r_iald C ak_100 d_M_take_101 e_x19 ?_
            refine r_iload_n (x := v2) C d_M_take_102 rfl rfl ?_
            refine r_icmp_ne C 110 d_M_take_103 (by decide) (fun c22 => ?_) (fun c22 => ?_)
            · rw [if_neg c22] at h
              refine r_iconst C (0 : Int32) d_M_take_110 (by decide) ?_
              replace h := g_ob h; obtain ⟨a20, rfl, h⟩ := h
              replace h := g_ob h; obtain ⟨V21, e_V21, h⟩ := h
              refine r_zast C ak_102 d_M_take_111 (Or.inl rfl) e_V21 ?_
              refine r_iinc (x := v4) (v := v4 + (1 : Int32)) (lv' := [(4, tI (v4 + (1 : Int32))), (0, tR (some v0)), (1, tI v1), (2, tI v2), (3, tI v3)]) C d_M_take_112 rfl rfl (by decide) rfl ?_
              refine r_goto C 46 d_M_take_115 (by decide) ?_
              refine r_lv [1, 2, 3, 4, 0] rfl ?_
              exact ih v0 v1 v2 v3 (v4 + (1 : Int32)) V21 h
            · rw [if_pos c22] at h
              exact t_M_take_106 C hr K7 hK7 K35 hK35 (D_M_take_46 L K7 K35 n) ih v0 v1 v2 v3 v4 v2 x4 V14 h
set_option maxHeartbeats 4000000 in
set_option maxRecDepth 100000 in
theorem t_M_take_35 (C : gC E base p s m args meth c b_M_take R_M 5) (hr : meth.sig.returnType = none) {z : Unit × gV} (K7 : Nat → Int32 → Int32 → gV → Option (Unit × gV)) (hK7 : ∀ (v0 : Nat) (v1 : Int32) (v2 : Int32) (V : gV), K7 v0 v1 v2 V = some z → vW E base base 5 p l e rm_M_take s m args below meth c 0 0 (g_MQ E base base below args s 0 0 L z.2 none) L V 7 [(0, tR (some v0)), (1, tI v1), (2, tI v2)] []) : ∀ (n : Nat) (v0 : Nat) (v1 : Int32) (v2 : Int32) (v3 : Int32) (V : gV), D_M_take_35 L K7 n v0 v1 v2 v3 V = some z → vW E base base 5 p l e rm_M_take s m args below meth c 0 0 (g_MQ E base base below args s 0 0 L z.2 none) L V 35 [(0, tR (some v0)), (1, tI v1), (2, tI v2), (3, tI v3)] [] := by
  intro n
  induction n with
  | zero =>
    intro v0 v1 v2 v3 V h
    rw [D_M_take_35] at h
    cases h
  | succ n ih =>
    intro v0 v1 v2 v3 V h
    rw [D_M_take_35] at h
    refine r_iload_n (x := v3) C d_M_take_35 rfl rfl ?_
    refine r_aload_n (x := (some v0)) C d_M_take_36 rfl rfl ?_
    replace h := g_ob h; obtain ⟨x1, e_x1, h⟩ := h
    refine r_getI C f_M_79 d_M_take_37 e_x1 ?_
    refine r_icmp_ge C 124 d_M_take_40 (by decide) (fun c2 => ?_) (fun c2 => ?_)
    · rw [if_pos c2] at h
      refine r_iinc (x := v2) (v := v2 + (-1 : Int32)) (lv' := [(2, tI (v2 + (-1 : Int32))), (0, tR (some v0)), (1, tI v1), (3, tI v3)]) C d_M_take_124 rfl rfl (by decide) rfl ?_
      refine r_goto C 7 d_M_take_127 (by decide) ?_
      refine r_lv [1, 2, 0] rfl ?_
      exact hK7 v0 v1 (v2 + (-1 : Int32)) V h
    · rw [if_neg c2] at h
      refine r_iconst C (0 : Int32) d_M_take_43 (by decide) ?_
      refine r_istore (lv' := [(4, tI (0 : Int32)), (0, tR (some v0)), (1, tI v1), (2, tI v2), (3, tI v3)]) C d_M_take_44 (by decide) rfl ?_
      refine r_lv [1, 2, 3, 4, 0] rfl ?_
      exact t_M_take_46 C hr K7 hK7 (D_M_take_35 L K7 n) ih 1000 v0 v1 v2 v3 (0 : Int32) V h
set_option maxHeartbeats 4000000 in
set_option maxRecDepth 100000 in
theorem t_M_take_7 (C : gC E base p s m args meth c b_M_take R_M 5) (hr : meth.sig.returnType = none) {z : Unit × gV} : ∀ (n : Nat) (v0 : Nat) (v1 : Int32) (v2 : Int32) (V : gV), D_M_take_7 L  n v0 v1 v2 V = some z → vW E base base 5 p l e rm_M_take s m args below meth c 0 0 (g_MQ E base base below args s 0 0 L z.2 none) L V 7 [(0, tR (some v0)), (1, tI v1), (2, tI v2)] [] := by
  intro n
  induction n with
  | zero =>
    intro v0 v1 v2 V h
    rw [D_M_take_7] at h
    cases h
  | succ n ih =>
    intro v0 v1 v2 V h
    rw [D_M_take_7] at h
    refine r_iload_n (x := v2) C d_M_take_7 rfl rfl ?_
    refine r_if_lt C 130 d_M_take_8 (by decide) (fun c7 => ?_) (fun c7 => ?_)
    · rw [if_pos c7] at h
      cases h
      exact r_vret C hr d_M_take_130
    · rw [if_neg c7] at h
      refine r_aload_n (x := (some v0)) C d_M_take_11 rfl rfl ?_
      replace h := g_ob h; obtain ⟨x1, e_x1, h⟩ := h
      refine r_getR C f_M_66 d_M_take_12 e_x1 ?_
      refine r_iload_n (x := v2) C d_M_take_15 rfl rfl ?_
      refine r_iload_n (x := v1) C d_M_take_16 rfl rfl ?_
      refine r_iload_n (x := v2) C d_M_take_17 rfl rfl ?_
      refine r_ishr C d_M_take_18 ?_
      refine r_iconst C (1 : Int32) d_M_take_19 (by decide) ?_
      refine r_iand C d_M_take_20 ?_
      refine r_iconst C (1 : Int32) d_M_take_21 (by decide) ?_
      refine r_icmp_ne C 29 d_M_take_22 (by decide) (fun c6 => ?_) (fun c6 => ?_)
      · rw [if_neg c6] at h
        refine r_iconst C (0 : Int32) d_M_take_29 (by decide) ?_
        replace h := g_ob h; obtain ⟨a2, rfl, h⟩ := h
        replace h := g_ob h; obtain ⟨V3, e_V3, h⟩ := h
        refine r_zast C ak_102 d_M_take_30 (Or.inl rfl) e_V3 ?_
        refine r_iload_n (x := v2) C d_M_take_31 rfl rfl ?_
        refine r_iconst C (1 : Int32) d_M_take_32 (by decide) ?_
        refine r_iadd C d_M_take_33 ?_
        refine r_istore_n (lv' := [(3, tI (v2 + (1 : Int32))), (0, tR (some v0)), (1, tI v1), (2, tI v2)]) C d_M_take_34 rfl (by decide) rfl ?_
        refine r_lv [1, 2, 3, 0] rfl ?_
        exact t_M_take_35 C hr (D_M_take_7 L  n) ih 1000 v0 v1 v2 (v2 + (1 : Int32)) V3 h
      · rw [if_pos c6] at h
        refine r_iconst C (1 : Int32) d_M_take_25 (by decide) ?_
        refine r_goto C 30 d_M_take_26 (by decide) ?_
        replace h := g_ob h; obtain ⟨a4, rfl, h⟩ := h
        replace h := g_ob h; obtain ⟨V5, e_V5, h⟩ := h
        refine r_zast C ak_102 d_M_take_30 (Or.inr rfl) e_V5 ?_
        refine r_iload_n (x := v2) C d_M_take_31 rfl rfl ?_
        refine r_iconst C (1 : Int32) d_M_take_32 (by decide) ?_
        refine r_iadd C d_M_take_33 ?_
        refine r_istore_n (lv' := [(3, tI (v2 + (1 : Int32))), (0, tR (some v0)), (1, tI v1), (2, tI v2)]) C d_M_take_34 rfl (by decide) rfl ?_
        refine r_lv [1, 2, 3, 0] rfl ?_
        exact t_M_take_35 C hr (D_M_take_7 L  n) ih 1000 v0 v1 v2 (v2 + (1 : Int32)) V5 h
set_option maxHeartbeats 4000000 in
set_option maxRecDepth 100000 in
theorem t_M_take_0 (C : gC E base p s m args meth c b_M_take R_M 5) (hr : meth.sig.returnType = none) {z : Unit × gV} (h0 : Nat) (p1 : Int32) (V : gV) (h : D_M_take h0 p1 L V = some z) : vW E base base 5 p l e rm_M_take s m args below meth c 0 0 (g_MQ E base base below args s 0 0 L z.2 none) L V 0 [(0, tR (some h0)), (1, tI p1)] [] := by
  unfold D_M_take at h
  refine r_aload_n (x := (some h0)) C d_M_take_0 rfl rfl ?_
  replace h := g_ob h; obtain ⟨x1, e_x1, h⟩ := h
  refine r_getI C f_M_79 d_M_take_1 e_x1 ?_
  refine r_iconst C (1 : Int32) d_M_take_4 (by decide) ?_
  refine r_isub C d_M_take_5 ?_
  refine r_istore_n (lv' := [(2, tI (x1 - (1 : Int32))), (0, tR (some h0)), (1, tI p1)]) C d_M_take_6 rfl (by decide) rfl ?_
  refine r_lv [1, 2, 0] rfl ?_
  exact t_M_take_7 C hr  1000 h0 p1 (x1 - (1 : Int32)) V h
theorem c_M_take (l : Launch) (E : gE) (base : Nat) (h0 : Nat) (p1 : Int32) (L : gL) (V : gV) {z : Unit × gV} (h : D_M_take h0 p1 L V = some z) : g_Met l E base base y_M_take b_M_take 5 none rm_M_take [tR (some h0), tI p1] L V none L z.2 :=
  r_enter R_M (by decide) rfl [tR (some h0), tI p1] [(0, tR (some h0)), (1, tI p1)] rfl (Nat.le_of_ble_eq_true rfl) (fun p e s m args below meth c C hr hnm => t_M_take_0 C hr h0 p1 V h)
def rm_M_mark : Room := { frames := 4, cells := 0, slots := 0, locals := 90 }
def D_M_mark_124 (L : gL) (K2 : Nat → Int32 → gV → Option (Unit × gV)) (K50 : Nat → Int32 → Int32 → gV → Option (Unit × gV)) (v0 : Nat) (v1 : Int32) (v2 : Int32) (s0 : Int32) (s1 : Option Nat) (V : gV) : Option (Unit × gV) :=
  Option.bind s1 fun a1 =>
    Option.bind (g_wa L V 102 a1 s0 (tI (1 : Int32))) fun V2 =>
    K50 v0 v1 (v2 + (1 : Int32)) V2
def D_M_mark_136 (L : gL) (K2 : Nat → Int32 → gV → Option (Unit × gV)) (v0 : Nat) (v1 : Int32) (V : gV) : Option (Unit × gV) :=
  Option.bind (g_rR L V 4 v0 19) fun x1 =>
    Option.bind x1 fun a2 =>
    Option.bind (g_aI L V 100 a2 (4 : Int32)) fun x3 =>
    Option.bind (g_rR L V 4 v0 22) fun x4 =>
    Option.bind x4 fun a5 =>
    Option.bind (g_aI L V 102 a5 v1) fun x6 =>
    (if x6 = 0 then
    Option.bind (g_wa L V 100 a2 (4 : Int32) (tI (x3 + (0 : Int32)))) fun V7 =>
    K2 v0 (v1 + (1 : Int32)) V7
  else
    Option.bind (g_wa L V 100 a2 (4 : Int32) (tI (x3 + (1 : Int32)))) fun V8 =>
    K2 v0 (v1 + (1 : Int32)) V8)
def D_M_mark_50 (L : gL) (K2 : Nat → Int32 → gV → Option (Unit × gV)) : Nat → Nat → Int32 → Int32 → gV → Option (Unit × gV)
  | 0, _, _, _, _ => none
  | n + 1, v0, v1, v2, V =>
  Option.bind (g_rR L V 4 v0 9) fun x1 =>
    Option.bind x1 fun a2 =>
    Option.bind (g_aI L V 100 a2 v1) fun x3 =>
    (if x3 ≤ v2 then
    D_M_mark_136 L K2 v0 v1 V
  else
    Option.bind (g_rR L V 4 v0 21) fun x4 =>
    Option.bind x4 fun a5 =>
    Option.bind (g_aI L V 102 a5 v1) fun x6 =>
    (if x6 = 0 then
    D_M_mark_136 L K2 v0 v1 V
  else
    Option.bind (g_rR L V 4 v0 22) fun x7 =>
    Option.bind (g_rR L V 4 v0 22) fun x8 =>
    Option.bind x8 fun a9 =>
    Option.bind (g_aI L V 102 a9 v1) fun x10 =>
    (if x10 = 0 then
    Option.bind ((L).2 4 v0) fun n29 =>
    g_b2 (D_M_isFileRead v0 v1 v2 L V) fun r11 V12 =>
    (if r11 = 0 then
    Option.bind (g_rR L V12 4 v0 22) fun x13 =>
    Option.bind (g_rR L V12 4 v0 10) fun x14 =>
    Option.bind x14 fun a15 =>
    Option.bind (g_aI L V12 100 a15 (((6 : Int32) * v1) + v2)) fun x16 =>
    Option.bind x13 fun a17 =>
    Option.bind (g_aI L V12 102 a17 x16) fun x18 =>
    (if x18 = 0 then
    Option.bind x7 fun a19 =>
    Option.bind (g_wa L V12 102 a19 v1 (tI (0 : Int32))) fun V20 =>
    D_M_mark_50 L K2 n v0 v1 (v2 + (1 : Int32)) V20
  else
    D_M_mark_124 L K2 (D_M_mark_50 L K2 n) v0 v1 v2 v1 x7 V12)
  else
    Option.bind ((L).2 4 v0) fun n27 =>
    g_b2 (D_M_isAsWas v0 v1 (0 : Int32) v2 L V12) fun r22 V23 =>
    (if r22 = 0 then
    D_M_mark_124 L K2 (D_M_mark_50 L K2 n) v0 v1 v2 v1 x7 V23
  else
    Option.bind x7 fun a24 =>
    Option.bind (g_wa L V23 102 a24 v1 (tI (0 : Int32))) fun V25 =>
    D_M_mark_50 L K2 n v0 v1 (v2 + (1 : Int32)) V25))
  else
    D_M_mark_124 L K2 (D_M_mark_50 L K2 n) v0 v1 v2 v1 x7 V)))
def D_M_mark_42 (L : gL) (K2 : Nat → Int32 → gV → Option (Unit × gV)) (v0 : Nat) (v1 : Int32) (s0 : Int32) (s1 : Option Nat) (V : gV) : Option (Unit × gV) :=
  Option.bind s1 fun a1 =>
    Option.bind (g_wa L V 102 a1 s0 (tI (1 : Int32))) fun V2 =>
    D_M_mark_50 L K2 1000 v0 v1 (0 : Int32) V2
def D_M_mark_2 (L : gL) : Nat → Nat → Int32 → gV → Option (Unit × gV)
  | 0, _, _, _ => none
  | n + 1, v0, v1, V =>
  Option.bind (g_rI L V 4 v0 2) fun x1 =>
    (if x1 ≤ v1 then
    some ((), V)
  else
    Option.bind (g_rR L V 4 v0 22) fun x2 =>
    Option.bind (g_rR L V 4 v0 21) fun x3 =>
    Option.bind x3 fun a4 =>
    Option.bind (g_aI L V 102 a4 v1) fun x5 =>
    (if x5 = 0 then
    Option.bind x2 fun a6 =>
    Option.bind (g_wa L V 102 a6 v1 (tI (0 : Int32))) fun V7 =>
    D_M_mark_50 L (D_M_mark_2 L  n) 1000 v0 v1 (0 : Int32) V7
  else
    Option.bind (g_rR L V 4 v0 12) fun x8 =>
    Option.bind x8 fun a9 =>
    Option.bind (g_aI L V 100 a9 v1) fun x10 =>
    (if x10 = 0 then
    D_M_mark_42 L (D_M_mark_2 L  n) v0 v1 v1 x2 V
  else
    Option.bind (g_rR L V 4 v0 7) fun x11 =>
    Option.bind x11 fun a12 =>
    Option.bind (g_aI L V 102 a12 v1) fun x13 =>
    (if x13 = 0 then
    Option.bind x2 fun a14 =>
    Option.bind (g_wa L V 102 a14 v1 (tI (0 : Int32))) fun V15 =>
    D_M_mark_50 L (D_M_mark_2 L  n) 1000 v0 v1 (0 : Int32) V15
  else
    D_M_mark_42 L (D_M_mark_2 L  n) v0 v1 v1 x2 V))))
def D_M_mark (h0 : Nat) (L : gL) (V : gV) : Option (Unit × gV) :=
  D_M_mark_2 L  1000 h0 (0 : Int32) V
set_option maxHeartbeats 4000000 in
set_option maxRecDepth 100000 in
theorem t_M_mark_124 (C : gC E base p s m args meth c b_M_mark R_M 3) (hr : meth.sig.returnType = none) {z : Unit × gV} (K2 : Nat → Int32 → gV → Option (Unit × gV)) (hK2 : ∀ (v0 : Nat) (v1 : Int32) (V : gV), K2 v0 v1 V = some z → vW E base base 3 p l e rm_M_mark s m args below meth c 0 0 (g_MQ E base base below args s 0 0 L z.2 none) L V 2 [(0, tR (some v0)), (1, tI v1)] []) (K50 : Nat → Int32 → Int32 → gV → Option (Unit × gV)) (hK50 : ∀ (v0 : Nat) (v1 : Int32) (v2 : Int32) (V : gV), K50 v0 v1 v2 V = some z → vW E base base 3 p l e rm_M_mark s m args below meth c 0 0 (g_MQ E base base below args s 0 0 L z.2 none) L V 50 [(0, tR (some v0)), (1, tI v1), (2, tI v2)] []) (v0 : Nat) (v1 : Int32) (v2 : Int32) (s0 : Int32) (s1 : Option Nat) (V : gV) (h : D_M_mark_124 L K2 K50 v0 v1 v2 s0 s1 V = some z) : vW E base base 3 p l e rm_M_mark s m args below meth c 0 0 (g_MQ E base base below args s 0 0 L z.2 none) L V 124 [(0, tR (some v0)), (1, tI v1), (2, tI v2)] [tI s0, tR s1] := by
  unfold D_M_mark_124 at h
  refine r_iconst C (1 : Int32) d_M_mark_124 (by decide) ?_
  refine r_goto C 129 d_M_mark_125 (by decide) ?_
  replace h := g_ob h; obtain ⟨a1, rfl, h⟩ := h
  replace h := g_ob h; obtain ⟨V2, e_V2, h⟩ := h
  refine r_zast C ak_102 d_M_mark_129 (Or.inr rfl) e_V2 ?_
  refine r_iinc (x := v2) (v := v2 + (1 : Int32)) (lv' := [(2, tI (v2 + (1 : Int32))), (0, tR (some v0)), (1, tI v1)]) C d_M_mark_130 rfl rfl (by decide) rfl ?_
  refine r_goto C 50 d_M_mark_133 (by decide) ?_
  refine r_lv [1, 2, 0] rfl ?_
  exact hK50 v0 v1 (v2 + (1 : Int32)) V2 h
set_option maxHeartbeats 4000000 in
set_option maxRecDepth 100000 in
theorem t_M_mark_136 (C : gC E base p s m args meth c b_M_mark R_M 3) (hr : meth.sig.returnType = none) {z : Unit × gV} (K2 : Nat → Int32 → gV → Option (Unit × gV)) (hK2 : ∀ (v0 : Nat) (v1 : Int32) (V : gV), K2 v0 v1 V = some z → vW E base base 3 p l e rm_M_mark s m args below meth c 0 0 (g_MQ E base base below args s 0 0 L z.2 none) L V 2 [(0, tR (some v0)), (1, tI v1)] []) (v0 : Nat) (v1 : Int32) (V : gV) (h : D_M_mark_136 L K2 v0 v1 V = some z) : vW E base base 3 p l e rm_M_mark s m args below meth c 0 0 (g_MQ E base base below args s 0 0 L z.2 none) L V 136 [(0, tR (some v0)), (1, tI v1)] [] := by
  unfold D_M_mark_136 at h
  refine r_aload_n (x := (some v0)) C d_M_mark_136 rfl rfl ?_
  replace h := g_ob h; obtain ⟨x1, e_x1, h⟩ := h
  refine r_getR C f_M_60 d_M_mark_137 e_x1 ?_
  refine r_iconst C (4 : Int32) d_M_mark_140 (by decide) ?_
  refine r_dup2 C d_M_mark_141 rfl rfl ?_
  replace h := g_ob h; obtain ⟨a2, rfl, h⟩ := h
  replace h := g_ob h; obtain ⟨x3, e_x3, h⟩ := h
  refine r_iald C ak_100 d_M_mark_142 e_x3 ?_
  refine r_aload_n (x := (some v0)) C d_M_mark_143 rfl rfl ?_
  replace h := g_ob h; obtain ⟨x4, e_x4, h⟩ := h
  refine r_getR C f_M_69 d_M_mark_144 e_x4 ?_
  refine r_iload_n (x := v1) C d_M_mark_147 rfl rfl ?_
  replace h := g_ob h; obtain ⟨a5, rfl, h⟩ := h
  replace h := g_ob h; obtain ⟨x6, e_x6, h⟩ := h
  refine r_zald C ak_102 d_M_mark_148 e_x6 ?_
  refine r_if_eq C 156 d_M_mark_149 (by decide) (fun c9 => ?_) (fun c9 => ?_)
  · rw [if_pos c9] at h
    refine r_iconst C (0 : Int32) d_M_mark_156 (by decide) ?_
    refine r_iadd C d_M_mark_157 ?_
    replace h := g_ob h; obtain ⟨V7, e_V7, h⟩ := h
    refine r_iast C ak_100 d_M_mark_158 e_V7 ?_
    refine r_iinc (x := v1) (v := v1 + (1 : Int32)) (lv' := [(1, tI (v1 + (1 : Int32))), (0, tR (some v0))]) C d_M_mark_159 rfl rfl (by decide) rfl ?_
    refine r_goto C 2 d_M_mark_162 (by decide) ?_
    refine r_lv [1, 0] rfl ?_
    exact hK2 v0 (v1 + (1 : Int32)) V7 h
  · rw [if_neg c9] at h
    refine r_iconst C (1 : Int32) d_M_mark_152 (by decide) ?_
    refine r_goto C 157 d_M_mark_153 (by decide) ?_
    refine r_iadd C d_M_mark_157 ?_
    replace h := g_ob h; obtain ⟨V8, e_V8, h⟩ := h
    refine r_iast C ak_100 d_M_mark_158 e_V8 ?_
    refine r_iinc (x := v1) (v := v1 + (1 : Int32)) (lv' := [(1, tI (v1 + (1 : Int32))), (0, tR (some v0))]) C d_M_mark_159 rfl rfl (by decide) rfl ?_
    refine r_goto C 2 d_M_mark_162 (by decide) ?_
    refine r_lv [1, 0] rfl ?_
    exact hK2 v0 (v1 + (1 : Int32)) V8 h
set_option maxHeartbeats 4000000 in
set_option maxRecDepth 100000 in
theorem t_M_mark_50 (C : gC E base p s m args meth c b_M_mark R_M 3) (hr : meth.sig.returnType = none) {z : Unit × gV} (K2 : Nat → Int32 → gV → Option (Unit × gV)) (hK2 : ∀ (v0 : Nat) (v1 : Int32) (V : gV), K2 v0 v1 V = some z → vW E base base 3 p l e rm_M_mark s m args below meth c 0 0 (g_MQ E base base below args s 0 0 L z.2 none) L V 2 [(0, tR (some v0)), (1, tI v1)] []) : ∀ (n : Nat) (v0 : Nat) (v1 : Int32) (v2 : Int32) (V : gV), D_M_mark_50 L K2 n v0 v1 v2 V = some z → vW E base base 3 p l e rm_M_mark s m args below meth c 0 0 (g_MQ E base base below args s 0 0 L z.2 none) L V 50 [(0, tR (some v0)), (1, tI v1), (2, tI v2)] [] := by
  intro n
  induction n with
  | zero =>
    intro v0 v1 v2 V h
    rw [D_M_mark_50] at h
    cases h
  | succ n ih =>
    intro v0 v1 v2 V h
    rw [D_M_mark_50] at h
    refine r_iload_n (x := v2) C d_M_mark_50 rfl rfl ?_
    refine r_aload_n (x := (some v0)) C d_M_mark_51 rfl rfl ?_
    replace h := g_ob h; obtain ⟨x1, e_x1, h⟩ := h
    refine r_getR C f_M_30 d_M_mark_52 e_x1 ?_
    refine r_iload_n (x := v1) C d_M_mark_55 rfl rfl ?_
    replace h := g_ob h; obtain ⟨a2, rfl, h⟩ := h
    replace h := g_ob h; obtain ⟨x3, e_x3, h⟩ := h
    refine r_iald C ak_100 d_M_mark_56 e_x3 ?_
    refine r_icmp_ge C 136 d_M_mark_57 (by decide) (fun c32 => ?_) (fun c32 => ?_)
    · rw [if_pos c32] at h
      refine r_lv [0, 1] rfl ?_
      exact t_M_mark_136 C hr K2 hK2 v0 v1 V h
    · rw [if_neg c32] at h
      refine r_aload_n (x := (some v0)) C d_M_mark_60 rfl rfl ?_
      replace h := g_ob h; obtain ⟨x4, e_x4, h⟩ := h
      refine r_getR C f_M_66 d_M_mark_61 e_x4 ?_
      refine r_iload_n (x := v1) C d_M_mark_64 rfl rfl ?_
      replace h := g_ob h; obtain ⟨a5, rfl, h⟩ := h
      replace h := g_ob h; obtain ⟨x6, e_x6, h⟩ := h
      refine r_zald C ak_102 d_M_mark_65 e_x6 ?_
      refine r_if_eq C 136 d_M_mark_66 (by decide) (fun c31 => ?_) (fun c31 => ?_)
      · rw [if_pos c31] at h
        refine r_lv [0, 1] rfl ?_
        exact t_M_mark_136 C hr K2 hK2 v0 v1 V h
      · rw [if_neg c31] at h
        refine r_aload_n (x := (some v0)) C d_M_mark_69 rfl rfl ?_
        replace h := g_ob h; obtain ⟨x7, e_x7, h⟩ := h
        refine r_getR C f_M_69 d_M_mark_70 e_x7 ?_
        refine r_iload_n (x := v1) C d_M_mark_73 rfl rfl ?_
        refine r_aload_n (x := (some v0)) C d_M_mark_74 rfl rfl ?_
        replace h := g_ob h; obtain ⟨x8, e_x8, h⟩ := h
        refine r_getR C f_M_69 d_M_mark_75 e_x8 ?_
        refine r_iload_n (x := v1) C d_M_mark_78 rfl rfl ?_
        replace h := g_ob h; obtain ⟨a9, rfl, h⟩ := h
        replace h := g_ob h; obtain ⟨x10, e_x10, h⟩ := h
        refine r_zald C ak_102 d_M_mark_79 e_x10 ?_
        refine r_if_ne C 124 d_M_mark_80 (by decide) (fun c30 => ?_) (fun c30 => ?_)
        · rw [if_neg c30] at h
          exact t_M_mark_124 C hr K2 hK2 (D_M_mark_50 L K2 n) ih v0 v1 v2 v1 x7 V h
        · rw [if_pos c30] at h
          refine r_aload_n (x := (some v0)) C d_M_mark_83 rfl rfl ?_
          refine r_iload_n (x := v1) C d_M_mark_84 rfl rfl ?_
          refine r_iload_n (x := v2) C d_M_mark_85 rfl rfl ?_
          replace h := g_ob h; obtain ⟨n29, e_n29, h⟩ := h
          replace h := g_o2 h; obtain ⟨r11, V12, e_r11, h⟩ := h
          refine r_callV (As := [tI v1, tI v2]) C k_M_97 w_280 w_281 w_274 ⟨_, _, rfl⟩ (c_M_isFileRead l E base base v0 v1 v2 L V e_r11) d_M_mark_86 e_n29 rfl ⟨Nat.le_of_ble_eq_true rfl, Nat.le_of_ble_eq_true rfl⟩ (Nat.le_of_ble_eq_true rfl) (Nat.le_of_ble_eq_true rfl) (Nat.le_of_ble_eq_true rfl) rfl ?_
          refine r_if_eq C 105 d_M_mark_89 (by decide) (fun c28 => ?_) (fun c28 => ?_)
          · rw [if_pos c28] at h
            refine r_aload_n (x := (some v0)) C d_M_mark_105 rfl rfl ?_
            replace h := g_ob h; obtain ⟨x13, e_x13, h⟩ := h
            refine r_getR C f_M_69 d_M_mark_106 e_x13 ?_
            refine r_aload_n (x := (some v0)) C d_M_mark_109 rfl rfl ?_
            replace h := g_ob h; obtain ⟨x14, e_x14, h⟩ := h
            refine r_getR C f_M_33 d_M_mark_110 e_x14 ?_
            refine r_bipush C (6 : Int32) d_M_mark_113 (by decide) ?_
            refine r_iload_n (x := v1) C d_M_mark_115 rfl rfl ?_
            refine r_imul C d_M_mark_116 ?_
            refine r_iload_n (x := v2) C d_M_mark_117 rfl rfl ?_
            refine r_iadd C d_M_mark_118 ?_
            replace h := g_ob h; obtain ⟨a15, rfl, h⟩ := h
            replace h := g_ob h; obtain ⟨x16, e_x16, h⟩ := h
            refine r_iald C ak_100 d_M_mark_119 e_x16 ?_
            replace h := g_ob h; obtain ⟨a17, rfl, h⟩ := h
            replace h := g_ob h; obtain ⟨x18, e_x18, h⟩ := h
            refine r_zald C ak_102 d_M_mark_120 e_x18 ?_
            refine r_if_eq C 128 d_M_mark_121 (by decide) (fun c21 => ?_) (fun c21 => ?_)
            · rw [if_pos c21] at h
              refine r_iconst C (0 : Int32) d_M_mark_128 (by decide) ?_
              replace h := g_ob h; obtain ⟨a19, rfl, h⟩ := h
              replace h := g_ob h; obtain ⟨V20, e_V20, h⟩ := h
              refine r_zast C ak_102 d_M_mark_129 (Or.inl rfl) e_V20 ?_
              refine r_iinc (x := v2) (v := v2 + (1 : Int32)) (lv' := [(2, tI (v2 + (1 : Int32))), (0, tR (some v0)), (1, tI v1)]) C d_M_mark_130 rfl rfl (by decide) rfl ?_
              refine r_goto C 50 d_M_mark_133 (by decide) ?_
              refine r_lv [1, 2, 0] rfl ?_
              exact ih v0 v1 (v2 + (1 : Int32)) V20 h
            · rw [if_neg c21] at h
              exact t_M_mark_124 C hr K2 hK2 (D_M_mark_50 L K2 n) ih v0 v1 v2 v1 x7 V12 h
          · rw [if_neg c28] at h
            refine r_aload_n (x := (some v0)) C d_M_mark_92 rfl rfl ?_
            refine r_iload_n (x := v1) C d_M_mark_93 rfl rfl ?_
            refine r_iconst C (0 : Int32) d_M_mark_94 (by decide) ?_
            refine r_iload_n (x := v2) C d_M_mark_95 rfl rfl ?_
            replace h := g_ob h; obtain ⟨n27, e_n27, h⟩ := h
            replace h := g_o2 h; obtain ⟨r22, V23, e_r22, h⟩ := h
            refine r_callV (As := [tI v1, tI (0 : Int32), tI v2]) C k_M_111 w_292 w_293 w_290 ⟨_, _, rfl⟩ (c_M_isAsWas l E base base v0 v1 (0 : Int32) v2 L V12 e_r22) d_M_mark_96 e_n27 rfl ⟨Nat.le_of_ble_eq_true rfl, Nat.le_of_ble_eq_true rfl⟩ (Nat.le_of_ble_eq_true rfl) (Nat.le_of_ble_eq_true rfl) (Nat.le_of_ble_eq_true rfl) rfl ?_
            refine r_if_ne C 128 d_M_mark_99 (by decide) (fun c26 => ?_) (fun c26 => ?_)
            · rw [if_neg c26] at h
              refine r_iconst C (0 : Int32) d_M_mark_128 (by decide) ?_
              replace h := g_ob h; obtain ⟨a24, rfl, h⟩ := h
              replace h := g_ob h; obtain ⟨V25, e_V25, h⟩ := h
              refine r_zast C ak_102 d_M_mark_129 (Or.inl rfl) e_V25 ?_
              refine r_iinc (x := v2) (v := v2 + (1 : Int32)) (lv' := [(2, tI (v2 + (1 : Int32))), (0, tR (some v0)), (1, tI v1)]) C d_M_mark_130 rfl rfl (by decide) rfl ?_
              refine r_goto C 50 d_M_mark_133 (by decide) ?_
              refine r_lv [1, 2, 0] rfl ?_
              exact ih v0 v1 (v2 + (1 : Int32)) V25 h
            · rw [if_pos c26] at h
              refine r_goto C 124 d_M_mark_102 (by decide) ?_
              exact t_M_mark_124 C hr K2 hK2 (D_M_mark_50 L K2 n) ih v0 v1 v2 v1 x7 V23 h
set_option maxHeartbeats 4000000 in
set_option maxRecDepth 100000 in
theorem t_M_mark_42 (C : gC E base p s m args meth c b_M_mark R_M 3) (hr : meth.sig.returnType = none) {z : Unit × gV} (K2 : Nat → Int32 → gV → Option (Unit × gV)) (hK2 : ∀ (v0 : Nat) (v1 : Int32) (V : gV), K2 v0 v1 V = some z → vW E base base 3 p l e rm_M_mark s m args below meth c 0 0 (g_MQ E base base below args s 0 0 L z.2 none) L V 2 [(0, tR (some v0)), (1, tI v1)] []) (v0 : Nat) (v1 : Int32) (s0 : Int32) (s1 : Option Nat) (V : gV) (h : D_M_mark_42 L K2 v0 v1 s0 s1 V = some z) : vW E base base 3 p l e rm_M_mark s m args below meth c 0 0 (g_MQ E base base below args s 0 0 L z.2 none) L V 42 [(0, tR (some v0)), (1, tI v1)] [tI s0, tR s1] := by
  unfold D_M_mark_42 at h
  refine r_iconst C (1 : Int32) d_M_mark_42 (by decide) ?_
  refine r_goto C 47 d_M_mark_43 (by decide) ?_
  replace h := g_ob h; obtain ⟨a1, rfl, h⟩ := h
  replace h := g_ob h; obtain ⟨V2, e_V2, h⟩ := h
  refine r_zast C ak_102 d_M_mark_47 (Or.inr rfl) e_V2 ?_
  refine r_iconst C (0 : Int32) d_M_mark_48 (by decide) ?_
  refine r_istore_n (lv' := [(2, tI (0 : Int32)), (0, tR (some v0)), (1, tI v1)]) C d_M_mark_49 rfl (by decide) rfl ?_
  refine r_lv [1, 2, 0] rfl ?_
  exact t_M_mark_50 C hr K2 hK2 1000 v0 v1 (0 : Int32) V2 h
set_option maxHeartbeats 4000000 in
set_option maxRecDepth 100000 in
theorem t_M_mark_2 (C : gC E base p s m args meth c b_M_mark R_M 3) (hr : meth.sig.returnType = none) {z : Unit × gV} : ∀ (n : Nat) (v0 : Nat) (v1 : Int32) (V : gV), D_M_mark_2 L  n v0 v1 V = some z → vW E base base 3 p l e rm_M_mark s m args below meth c 0 0 (g_MQ E base base below args s 0 0 L z.2 none) L V 2 [(0, tR (some v0)), (1, tI v1)] [] := by
  intro n
  induction n with
  | zero =>
    intro v0 v1 V h
    rw [D_M_mark_2] at h
    cases h
  | succ n ih =>
    intro v0 v1 V h
    rw [D_M_mark_2] at h
    refine r_iload_n (x := v1) C d_M_mark_2 rfl rfl ?_
    refine r_aload_n (x := (some v0)) C d_M_mark_3 rfl rfl ?_
    replace h := g_ob h; obtain ⟨x1, e_x1, h⟩ := h
    refine r_getI C f_M_79 d_M_mark_4 e_x1 ?_
    refine r_icmp_ge C 165 d_M_mark_7 (by decide) (fun c19 => ?_) (fun c19 => ?_)
    · rw [if_pos c19] at h
      cases h
      exact r_vret C hr d_M_mark_165
    · rw [if_neg c19] at h
      refine r_aload_n (x := (some v0)) C d_M_mark_10 rfl rfl ?_
      replace h := g_ob h; obtain ⟨x2, e_x2, h⟩ := h
      refine r_getR C f_M_69 d_M_mark_11 e_x2 ?_
      refine r_iload_n (x := v1) C d_M_mark_14 rfl rfl ?_
      refine r_aload_n (x := (some v0)) C d_M_mark_15 rfl rfl ?_
      replace h := g_ob h; obtain ⟨x3, e_x3, h⟩ := h
      refine r_getR C f_M_66 d_M_mark_16 e_x3 ?_
      refine r_iload_n (x := v1) C d_M_mark_19 rfl rfl ?_
      replace h := g_ob h; obtain ⟨a4, rfl, h⟩ := h
      replace h := g_ob h; obtain ⟨x5, e_x5, h⟩ := h
      refine r_zald C ak_102 d_M_mark_20 e_x5 ?_
      refine r_if_eq C 46 d_M_mark_21 (by decide) (fun c18 => ?_) (fun c18 => ?_)
      · rw [if_pos c18] at h
        refine r_iconst C (0 : Int32) d_M_mark_46 (by decide) ?_
        replace h := g_ob h; obtain ⟨a6, rfl, h⟩ := h
        replace h := g_ob h; obtain ⟨V7, e_V7, h⟩ := h
        refine r_zast C ak_102 d_M_mark_47 (Or.inl rfl) e_V7 ?_
        refine r_iconst C (0 : Int32) d_M_mark_48 (by decide) ?_
        refine r_istore_n (lv' := [(2, tI (0 : Int32)), (0, tR (some v0)), (1, tI v1)]) C d_M_mark_49 rfl (by decide) rfl ?_
        refine r_lv [1, 2, 0] rfl ?_
        exact t_M_mark_50 C hr (D_M_mark_2 L  n) ih 1000 v0 v1 (0 : Int32) V7 h
      · rw [if_neg c18] at h
        refine r_aload_n (x := (some v0)) C d_M_mark_24 rfl rfl ?_
        replace h := g_ob h; obtain ⟨x8, e_x8, h⟩ := h
        refine r_getR C f_M_39 d_M_mark_25 e_x8 ?_
        refine r_iload_n (x := v1) C d_M_mark_28 rfl rfl ?_
        replace h := g_ob h; obtain ⟨a9, rfl, h⟩ := h
        replace h := g_ob h; obtain ⟨x10, e_x10, h⟩ := h
        refine r_iald C ak_100 d_M_mark_29 e_x10 ?_
        refine r_if_eq C 42 d_M_mark_30 (by decide) (fun c17 => ?_) (fun c17 => ?_)
        · rw [if_pos c17] at h
          exact t_M_mark_42 C hr (D_M_mark_2 L  n) ih v0 v1 v1 x2 V h
        · rw [if_neg c17] at h
          refine r_aload_n (x := (some v0)) C d_M_mark_33 rfl rfl ?_
          replace h := g_ob h; obtain ⟨x11, e_x11, h⟩ := h
          refine r_getR C f_M_23 d_M_mark_34 e_x11 ?_
          refine r_iload_n (x := v1) C d_M_mark_37 rfl rfl ?_
          replace h := g_ob h; obtain ⟨a12, rfl, h⟩ := h
          replace h := g_ob h; obtain ⟨x13, e_x13, h⟩ := h
          refine r_zald C ak_102 d_M_mark_38 e_x13 ?_
          refine r_if_eq C 46 d_M_mark_39 (by decide) (fun c16 => ?_) (fun c16 => ?_)
          · rw [if_pos c16] at h
            refine r_iconst C (0 : Int32) d_M_mark_46 (by decide) ?_
            replace h := g_ob h; obtain ⟨a14, rfl, h⟩ := h
            replace h := g_ob h; obtain ⟨V15, e_V15, h⟩ := h
            refine r_zast C ak_102 d_M_mark_47 (Or.inl rfl) e_V15 ?_
            refine r_iconst C (0 : Int32) d_M_mark_48 (by decide) ?_
            refine r_istore_n (lv' := [(2, tI (0 : Int32)), (0, tR (some v0)), (1, tI v1)]) C d_M_mark_49 rfl (by decide) rfl ?_
            refine r_lv [1, 2, 0] rfl ?_
            exact t_M_mark_50 C hr (D_M_mark_2 L  n) ih 1000 v0 v1 (0 : Int32) V15 h
          · rw [if_neg c16] at h
            exact t_M_mark_42 C hr (D_M_mark_2 L  n) ih v0 v1 v1 x2 V h
set_option maxHeartbeats 4000000 in
set_option maxRecDepth 100000 in
theorem t_M_mark_0 (C : gC E base p s m args meth c b_M_mark R_M 3) (hr : meth.sig.returnType = none) {z : Unit × gV} (h0 : Nat) (V : gV) (h : D_M_mark h0 L V = some z) : vW E base base 3 p l e rm_M_mark s m args below meth c 0 0 (g_MQ E base base below args s 0 0 L z.2 none) L V 0 [(0, tR (some h0))] [] := by
  unfold D_M_mark at h
  refine r_iconst C (0 : Int32) d_M_mark_0 (by decide) ?_
  refine r_istore_n (lv' := [(1, tI (0 : Int32)), (0, tR (some h0))]) C d_M_mark_1 rfl (by decide) rfl ?_
  refine r_lv [1, 0] rfl ?_
  exact t_M_mark_2 C hr  1000 h0 (0 : Int32) V h
theorem c_M_mark (l : Launch) (E : gE) (base : Nat) (h0 : Nat) (L : gL) (V : gV) {z : Unit × gV} (h : D_M_mark h0 L V = some z) : g_Met l E base base y_M_mark b_M_mark 3 none rm_M_mark [tR (some h0)] L V none L z.2 :=
  r_enter R_M (by decide) rfl [tR (some h0)] [(0, tR (some h0))] rfl (Nat.le_of_ble_eq_true rfl) (fun p e s m args below meth c C hr hnm => t_M_mark_0 C hr h0 V h)
def rm_M_isBlocked : Room := { frames := 1, cells := 0, slots := 0, locals := 22 }
def D_M_isBlocked_73 (L : gL) (K4 : Nat → Int32 → Int32 → Int32 → gV → Option (Int32 × gV)) (v0 : Nat) (v1 : Int32) (v3 : Int32) (V : gV) : Option (Int32 × gV) :=
  K4 v0 v1 (1 : Int32) (v3 + (1 : Int32)) V
def D_M_isBlocked_4 (L : gL) : Nat → Nat → Int32 → Int32 → Int32 → gV → Option (Int32 × gV)
  | 0, _, _, _, _, _ => none
  | n + 1, v0, v1, v2, v3, V =>
  Option.bind (g_rR L V 4 v0 9) fun x1 =>
    Option.bind x1 fun a2 =>
    Option.bind (g_aI L V 100 a2 v1) fun x3 =>
    (if x3 ≤ v3 then
    Option.bind (g_bz v2) fun _ =>
    some (v2, V)
  else
    Option.bind (g_rR L V 4 v0 10) fun x5 =>
    Option.bind x5 fun a6 =>
    Option.bind (g_aI L V 100 a6 (((6 : Int32) * v1) + v3)) fun x7 =>
    (if v2 = 0 then
    Option.bind ((L).2 4 v0) fun n23 =>
    g_b2 (D_M_isFileRead v0 v1 v3 L V) fun r8 V9 =>
    (if r8 = 0 then
    Option.bind (g_rR L V9 4 v0 17) fun x10 =>
    Option.bind x10 fun a11 =>
    Option.bind (g_aI L V9 100 a11 x7) fun x12 =>
    (if x12 = (5 : Int32) then
    D_M_isBlocked_73 L (D_M_isBlocked_4 L  n) v0 v1 v3 V9
  else
    Option.bind (g_rR L V9 4 v0 17) fun x13 =>
    Option.bind x13 fun a14 =>
    Option.bind (g_aI L V9 100 a14 x7) fun x15 =>
    (if x15 = (3 : Int32) then
    D_M_isBlocked_73 L (D_M_isBlocked_4 L  n) v0 v1 v3 V9
  else
    Option.bind (g_rR L V9 4 v0 17) fun x16 =>
    Option.bind x16 fun a17 =>
    Option.bind (g_aI L V9 100 a17 x7) fun x18 =>
    (if x18 = (4 : Int32) then
    D_M_isBlocked_73 L (D_M_isBlocked_4 L  n) v0 v1 v3 V9
  else
    D_M_isBlocked_4 L  n v0 v1 (0 : Int32) (v3 + (1 : Int32)) V9)))
  else
    D_M_isBlocked_4 L  n v0 v1 (0 : Int32) (v3 + (1 : Int32)) V9)
  else
    D_M_isBlocked_73 L (D_M_isBlocked_4 L  n) v0 v1 v3 V))
def D_M_isBlocked (h0 : Nat) (p1 : Int32) (L : gL) (V : gV) : Option (Int32 × gV) :=
  D_M_isBlocked_4 L  1000 h0 p1 (0 : Int32) (0 : Int32) V
set_option maxHeartbeats 4000000 in
set_option maxRecDepth 100000 in
theorem t_M_isBlocked_73 (C : gC E bA p s m args meth c b_M_isBlocked R_M 5) (hr : meth.sig.returnType = (some .boolean)) {z : Int32 × gV} (K4 : Nat → Int32 → Int32 → Int32 → gV → Option (Int32 × gV)) (hK4 : ∀ (v0 : Nat) (v1 : Int32) (v2 : Int32) (v3 : Int32) (V : gV), K4 v0 v1 v2 v3 V = some z → vW E base bA 5 p l e rm_M_isBlocked s m args below meth c 0 0 (g_MQ E base bA below args s 0 0 L z.2 (some (tI z.1))) L V 4 [(0, tR (some v0)), (1, tI v1), (2, tI v2), (3, tI v3)] []) (v0 : Nat) (v1 : Int32) (v3 : Int32) (V : gV) (h : D_M_isBlocked_73 L K4 v0 v1 v3 V = some z) : vW E base bA 5 p l e rm_M_isBlocked s m args below meth c 0 0 (g_MQ E base bA below args s 0 0 L z.2 (some (tI z.1))) L V 73 [(0, tR (some v0)), (1, tI v1), (3, tI v3)] [] := by
  unfold D_M_isBlocked_73 at h
  refine r_iconst C (1 : Int32) d_M_isBlocked_73 (by decide) ?_
  refine r_goto C 78 d_M_isBlocked_74 (by decide) ?_
  refine r_istore_n (lv' := [(2, tI (1 : Int32)), (0, tR (some v0)), (1, tI v1), (3, tI v3)]) C d_M_isBlocked_78 rfl (by decide) rfl ?_
  refine r_iinc (x := v3) (v := v3 + (1 : Int32)) (lv' := [(3, tI (v3 + (1 : Int32))), (2, tI (1 : Int32)), (0, tR (some v0)), (1, tI v1)]) C d_M_isBlocked_79 rfl rfl (by decide) rfl ?_
  refine r_goto C 4 d_M_isBlocked_82 (by decide) ?_
  refine r_lv [2, 3, 1, 0] rfl ?_
  exact hK4 v0 v1 (1 : Int32) (v3 + (1 : Int32)) V h
set_option maxHeartbeats 4000000 in
set_option maxRecDepth 100000 in
theorem t_M_isBlocked_4 (C : gC E bA p s m args meth c b_M_isBlocked R_M 5) (hr : meth.sig.returnType = (some .boolean)) {z : Int32 × gV} : ∀ (n : Nat) (v0 : Nat) (v1 : Int32) (v2 : Int32) (v3 : Int32) (V : gV), D_M_isBlocked_4 L  n v0 v1 v2 v3 V = some z → vW E base bA 5 p l e rm_M_isBlocked s m args below meth c 0 0 (g_MQ E base bA below args s 0 0 L z.2 (some (tI z.1))) L V 4 [(0, tR (some v0)), (1, tI v1), (2, tI v2), (3, tI v3)] [] := by
  intro n
  induction n with
  | zero =>
    intro v0 v1 v2 v3 V h
    rw [D_M_isBlocked_4] at h
    cases h
  | succ n ih =>
    intro v0 v1 v2 v3 V h
    rw [D_M_isBlocked_4] at h
    refine r_iload_n (x := v3) C d_M_isBlocked_4 rfl rfl ?_
    refine r_aload_n (x := (some v0)) C d_M_isBlocked_5 rfl rfl ?_
    replace h := g_ob h; obtain ⟨x1, e_x1, h⟩ := h
    refine r_getR C f_M_30 d_M_isBlocked_6 e_x1 ?_
    refine r_iload_n (x := v1) C d_M_isBlocked_9 rfl rfl ?_
    replace h := g_ob h; obtain ⟨a2, rfl, h⟩ := h
    replace h := g_ob h; obtain ⟨x3, e_x3, h⟩ := h
    refine r_iald C ak_100 d_M_isBlocked_10 e_x3 ?_
    refine r_icmp_ge C 85 d_M_isBlocked_11 (by decide) (fun c25 => ?_) (fun c25 => ?_)
    · rw [if_pos c25] at h
      refine r_iload_n (x := v2) C d_M_isBlocked_85 rfl rfl ?_
      replace h := g_ob h; obtain ⟨u4, e_u4, h⟩ := h
      cases h
      exact r_zret C hr d_M_isBlocked_86 (g_bz_spec e_u4)
    · rw [if_neg c25] at h
      refine r_aload_n (x := (some v0)) C d_M_isBlocked_14 rfl rfl ?_
      replace h := g_ob h; obtain ⟨x5, e_x5, h⟩ := h
      refine r_getR C f_M_33 d_M_isBlocked_15 e_x5 ?_
      refine r_bipush C (6 : Int32) d_M_isBlocked_18 (by decide) ?_
      refine r_iload_n (x := v1) C d_M_isBlocked_20 rfl rfl ?_
      refine r_imul C d_M_isBlocked_21 ?_
      refine r_iload_n (x := v3) C d_M_isBlocked_22 rfl rfl ?_
      refine r_iadd C d_M_isBlocked_23 ?_
      replace h := g_ob h; obtain ⟨a6, rfl, h⟩ := h
      replace h := g_ob h; obtain ⟨x7, e_x7, h⟩ := h
      refine r_iald C ak_100 d_M_isBlocked_24 e_x7 ?_
      refine r_istore (lv' := [(4, tI x7), (0, tR (some v0)), (1, tI v1), (2, tI v2), (3, tI v3)]) C d_M_isBlocked_25 (by decide) rfl ?_
      refine r_iload_n (x := v2) C d_M_isBlocked_27 rfl rfl ?_
      refine r_if_ne C 73 d_M_isBlocked_28 (by decide) (fun c24 => ?_) (fun c24 => ?_)
      · rw [if_neg c24] at h
        refine r_lv [1, 2, 4] rfl ?_
        exact t_M_isBlocked_73 C hr (D_M_isBlocked_4 L  n) ih v0 v1 v3 V h
      · rw [if_pos c24] at h
        refine r_aload_n (x := (some v0)) C d_M_isBlocked_31 rfl rfl ?_
        refine r_iload_n (x := v1) C d_M_isBlocked_32 rfl rfl ?_
        refine r_iload_n (x := v3) C d_M_isBlocked_33 rfl rfl ?_
        replace h := g_ob h; obtain ⟨n23, e_n23, h⟩ := h
        replace h := g_o2 h; obtain ⟨r8, V9, e_r8, h⟩ := h
        refine r_callV (As := [tI v1, tI v3]) C k_M_97 w_280 w_281 w_274 ⟨_, _, rfl⟩ (c_M_isFileRead l E base bA v0 v1 v3 L V e_r8) d_M_isBlocked_34 e_n23 rfl ⟨Nat.le_of_ble_eq_true rfl, Nat.le_of_ble_eq_true rfl⟩ (Nat.le_of_ble_eq_true rfl) (Nat.le_of_ble_eq_true rfl) (Nat.le_of_ble_eq_true rfl) rfl ?_
        refine r_if_ne C 77 d_M_isBlocked_37 (by decide) (fun c22 => ?_) (fun c22 => ?_)
        · rw [if_neg c22] at h
          refine r_iconst C (0 : Int32) d_M_isBlocked_77 (by decide) ?_
          refine r_istore_n (lv' := [(2, tI (0 : Int32)), (4, tI x7), (0, tR (some v0)), (1, tI v1), (3, tI v3)]) C d_M_isBlocked_78 rfl (by decide) rfl ?_
          refine r_iinc (x := v3) (v := v3 + (1 : Int32)) (lv' := [(3, tI (v3 + (1 : Int32))), (2, tI (0 : Int32)), (4, tI x7), (0, tR (some v0)), (1, tI v1)]) C d_M_isBlocked_79 rfl rfl (by decide) rfl ?_
          refine r_goto C 4 d_M_isBlocked_82 (by decide) ?_
          refine r_lv [3, 4, 1, 0] rfl ?_
          exact ih v0 v1 (0 : Int32) (v3 + (1 : Int32)) V9 h
        · rw [if_pos c22] at h
          refine r_aload_n (x := (some v0)) C d_M_isBlocked_40 rfl rfl ?_
          replace h := g_ob h; obtain ⟨x10, e_x10, h⟩ := h
          refine r_getR C f_M_54 d_M_isBlocked_41 e_x10 ?_
          refine r_iload (x := x7) C d_M_isBlocked_44 rfl ?_
          replace h := g_ob h; obtain ⟨a11, rfl, h⟩ := h
          replace h := g_ob h; obtain ⟨x12, e_x12, h⟩ := h
          refine r_iald C ak_100 d_M_isBlocked_46 e_x12 ?_
          refine r_iconst C (5 : Int32) d_M_isBlocked_47 (by decide) ?_
          refine r_icmp_eq C 73 d_M_isBlocked_48 (by decide) (fun c21 => ?_) (fun c21 => ?_)
          · rw [if_pos c21] at h
            refine r_lv [1, 2, 4] rfl ?_
            exact t_M_isBlocked_73 C hr (D_M_isBlocked_4 L  n) ih v0 v1 v3 V9 h
          · rw [if_neg c21] at h
            refine r_aload_n (x := (some v0)) C d_M_isBlocked_51 rfl rfl ?_
            replace h := g_ob h; obtain ⟨x13, e_x13, h⟩ := h
            refine r_getR C f_M_54 d_M_isBlocked_52 e_x13 ?_
            refine r_iload (x := x7) C d_M_isBlocked_55 rfl ?_
            replace h := g_ob h; obtain ⟨a14, rfl, h⟩ := h
            replace h := g_ob h; obtain ⟨x15, e_x15, h⟩ := h
            refine r_iald C ak_100 d_M_isBlocked_57 e_x15 ?_
            refine r_iconst C (3 : Int32) d_M_isBlocked_58 (by decide) ?_
            refine r_icmp_eq C 73 d_M_isBlocked_59 (by decide) (fun c20 => ?_) (fun c20 => ?_)
            · rw [if_pos c20] at h
              refine r_lv [1, 2, 4] rfl ?_
              exact t_M_isBlocked_73 C hr (D_M_isBlocked_4 L  n) ih v0 v1 v3 V9 h
            · rw [if_neg c20] at h
              refine r_aload_n (x := (some v0)) C d_M_isBlocked_62 rfl rfl ?_
              replace h := g_ob h; obtain ⟨x16, e_x16, h⟩ := h
              refine r_getR C f_M_54 d_M_isBlocked_63 e_x16 ?_
              refine r_iload (x := x7) C d_M_isBlocked_66 rfl ?_
              replace h := g_ob h; obtain ⟨a17, rfl, h⟩ := h
              replace h := g_ob h; obtain ⟨x18, e_x18, h⟩ := h
              refine r_iald C ak_100 d_M_isBlocked_68 e_x18 ?_
              refine r_iconst C (4 : Int32) d_M_isBlocked_69 (by decide) ?_
              refine r_icmp_ne C 77 d_M_isBlocked_70 (by decide) (fun c19 => ?_) (fun c19 => ?_)
              · rw [if_neg c19] at h
                refine r_iconst C (0 : Int32) d_M_isBlocked_77 (by decide) ?_
                refine r_istore_n (lv' := [(2, tI (0 : Int32)), (4, tI x7), (0, tR (some v0)), (1, tI v1), (3, tI v3)]) C d_M_isBlocked_78 rfl (by decide) rfl ?_
                refine r_iinc (x := v3) (v := v3 + (1 : Int32)) (lv' := [(3, tI (v3 + (1 : Int32))), (2, tI (0 : Int32)), (4, tI x7), (0, tR (some v0)), (1, tI v1)]) C d_M_isBlocked_79 rfl rfl (by decide) rfl ?_
                refine r_goto C 4 d_M_isBlocked_82 (by decide) ?_
                refine r_lv [3, 4, 1, 0] rfl ?_
                exact ih v0 v1 (0 : Int32) (v3 + (1 : Int32)) V9 h
              · rw [if_pos c19] at h
                refine r_lv [1, 2, 4] rfl ?_
                exact t_M_isBlocked_73 C hr (D_M_isBlocked_4 L  n) ih v0 v1 v3 V9 h
set_option maxHeartbeats 4000000 in
set_option maxRecDepth 100000 in
theorem t_M_isBlocked_0 (C : gC E bA p s m args meth c b_M_isBlocked R_M 5) (hr : meth.sig.returnType = (some .boolean)) {z : Int32 × gV} (h0 : Nat) (p1 : Int32) (V : gV) (h : D_M_isBlocked h0 p1 L V = some z) : vW E base bA 5 p l e rm_M_isBlocked s m args below meth c 0 0 (g_MQ E base bA below args s 0 0 L z.2 (some (tI z.1))) L V 0 [(0, tR (some h0)), (1, tI p1)] [] := by
  unfold D_M_isBlocked at h
  refine r_iconst C (0 : Int32) d_M_isBlocked_0 (by decide) ?_
  refine r_istore_n (lv' := [(2, tI (0 : Int32)), (0, tR (some h0)), (1, tI p1)]) C d_M_isBlocked_1 rfl (by decide) rfl ?_
  refine r_iconst C (0 : Int32) d_M_isBlocked_2 (by decide) ?_
  refine r_istore_n (lv' := [(3, tI (0 : Int32)), (2, tI (0 : Int32)), (0, tR (some h0)), (1, tI p1)]) C d_M_isBlocked_3 rfl (by decide) rfl ?_
  refine r_lv [2, 3, 1, 0] rfl ?_
  exact t_M_isBlocked_4 C hr  1000 h0 p1 (0 : Int32) (0 : Int32) V h
theorem c_M_isBlocked (l : Launch) (E : gE) (base bA : Nat) (h0 : Nat) (p1 : Int32) (L : gL) (V : gV) {z : Int32 × gV} (h : D_M_isBlocked h0 p1 L V = some z) : g_Met l E base bA y_M_isBlocked b_M_isBlocked 5 (some .boolean) rm_M_isBlocked [tR (some h0), tI p1] L V (some (tI z.1)) L z.2 :=
  r_enter R_M (by decide) rfl [tR (some h0), tI p1] [(0, tR (some h0)), (1, tI p1)] rfl (Nat.le_of_ble_eq_true rfl) (fun p e s m args below meth c C hr hnm => t_M_isBlocked_0 C hr h0 p1 V h)
def rm_M_causeOf : Room := { frames := 4, cells := 0, slots := 0, locals := 90 }
def D_M_causeOf_24 (L : gL) : Nat → Nat → Int32 → Int32 → gV → Option (Int32 × gV)
  | 0, _, _, _, _ => none
  | n + 1, v0, v1, v2, V =>
  Option.bind ((L).2 4 v0) fun n8 =>
    g_b2 (D_M_isAsWas v0 v1 (0 : Int32) v2 L V) fun r1 V2 =>
    (if r1 = 0 then
    Option.bind ((L).2 4 v0) fun n6 =>
    g_b2 (D_M_isFileRead v0 v1 v2 L V2) fun r3 V4 =>
    (if r3 = 0 then
    some ((3 : Int32), V4)
  else
    some ((2 : Int32), V4))
  else
    D_M_causeOf_24 L  n v0 v1 (v2 + (1 : Int32)) V2)
def D_M_causeOf (h0 : Nat) (p1 : Int32) (L : gL) (V : gV) : Option (Int32 × gV) :=
  Option.bind (g_rR L V 4 h0 12) fun x1 =>
    Option.bind x1 fun a2 =>
    Option.bind (g_aI L V 100 a2 p1) fun x3 =>
    (if x3 = 0 then
    some ((0 : Int32), V)
  else
    Option.bind (g_rR L V 4 h0 7) fun x4 =>
    Option.bind x4 fun a5 =>
    Option.bind (g_aI L V 102 a5 p1) fun x6 =>
    (if x6 = 0 then
    D_M_causeOf_24 L  1000 h0 p1 (0 : Int32) V
  else
    some ((1 : Int32), V)))
set_option maxHeartbeats 4000000 in
set_option maxRecDepth 100000 in
theorem t_M_causeOf_24 (C : gC E bA p s m args meth c b_M_causeOf R_M 3) (hr : meth.sig.returnType = (some .int)) {z : Int32 × gV} : ∀ (n : Nat) (v0 : Nat) (v1 : Int32) (v2 : Int32) (V : gV), D_M_causeOf_24 L  n v0 v1 v2 V = some z → vW E base bA 3 p l e rm_M_causeOf s m args below meth c 0 0 (g_MQ E base bA below args s 0 0 L z.2 (some (tI z.1))) L V 24 [(0, tR (some v0)), (1, tI v1), (2, tI v2)] [] := by
  intro n
  induction n with
  | zero =>
    intro v0 v1 v2 V h
    rw [D_M_causeOf_24] at h
    cases h
  | succ n ih =>
    intro v0 v1 v2 V h
    rw [D_M_causeOf_24] at h
    refine r_aload_n (x := (some v0)) C d_M_causeOf_24 rfl rfl ?_
    refine r_iload_n (x := v1) C d_M_causeOf_25 rfl rfl ?_
    refine r_iconst C (0 : Int32) d_M_causeOf_26 (by decide) ?_
    refine r_iload_n (x := v2) C d_M_causeOf_27 rfl rfl ?_
    replace h := g_ob h; obtain ⟨n8, e_n8, h⟩ := h
    replace h := g_o2 h; obtain ⟨r1, V2, e_r1, h⟩ := h
    refine r_callV (As := [tI v1, tI (0 : Int32), tI v2]) C k_M_111 w_292 w_293 w_290 ⟨_, _, rfl⟩ (c_M_isAsWas l E base bA v0 v1 (0 : Int32) v2 L V e_r1) d_M_causeOf_28 e_n8 rfl ⟨Nat.le_of_ble_eq_true rfl, Nat.le_of_ble_eq_true rfl⟩ (Nat.le_of_ble_eq_true rfl) (Nat.le_of_ble_eq_true rfl) (Nat.le_of_ble_eq_true rfl) rfl ?_
    refine r_if_eq C 40 d_M_causeOf_31 (by decide) (fun c7 => ?_) (fun c7 => ?_)
    · rw [if_pos c7] at h
      refine r_aload_n (x := (some v0)) C d_M_causeOf_40 rfl rfl ?_
      refine r_iload_n (x := v1) C d_M_causeOf_41 rfl rfl ?_
      refine r_iload_n (x := v2) C d_M_causeOf_42 rfl rfl ?_
      replace h := g_ob h; obtain ⟨n6, e_n6, h⟩ := h
      replace h := g_o2 h; obtain ⟨r3, V4, e_r3, h⟩ := h
      refine r_callV (As := [tI v1, tI v2]) C k_M_97 w_280 w_281 w_274 ⟨_, _, rfl⟩ (c_M_isFileRead l E base bA v0 v1 v2 L V2 e_r3) d_M_causeOf_43 e_n6 rfl ⟨Nat.le_of_ble_eq_true rfl, Nat.le_of_ble_eq_true rfl⟩ (Nat.le_of_ble_eq_true rfl) (Nat.le_of_ble_eq_true rfl) (Nat.le_of_ble_eq_true rfl) rfl ?_
      refine r_if_eq C 53 d_M_causeOf_46 (by decide) (fun c5 => ?_) (fun c5 => ?_)
      · rw [if_pos c5] at h
        refine r_iconst C (3 : Int32) d_M_causeOf_53 (by decide) ?_
        cases h
        exact r_iret C hr d_M_causeOf_54
      · rw [if_neg c5] at h
        refine r_iconst C (2 : Int32) d_M_causeOf_49 (by decide) ?_
        refine r_goto C 54 d_M_causeOf_50 (by decide) ?_
        cases h
        exact r_iret C hr d_M_causeOf_54
    · rw [if_neg c7] at h
      refine r_iinc (x := v2) (v := v2 + (1 : Int32)) (lv' := [(2, tI (v2 + (1 : Int32))), (0, tR (some v0)), (1, tI v1)]) C d_M_causeOf_34 rfl rfl (by decide) rfl ?_
      refine r_goto C 24 d_M_causeOf_37 (by decide) ?_
      refine r_lv [1, 2, 0] rfl ?_
      exact ih v0 v1 (v2 + (1 : Int32)) V2 h
set_option maxHeartbeats 4000000 in
set_option maxRecDepth 100000 in
theorem t_M_causeOf_0 (C : gC E bA p s m args meth c b_M_causeOf R_M 3) (hr : meth.sig.returnType = (some .int)) {z : Int32 × gV} (h0 : Nat) (p1 : Int32) (V : gV) (h : D_M_causeOf h0 p1 L V = some z) : vW E base bA 3 p l e rm_M_causeOf s m args below meth c 0 0 (g_MQ E base bA below args s 0 0 L z.2 (some (tI z.1))) L V 0 [(0, tR (some h0)), (1, tI p1)] [] := by
  unfold D_M_causeOf at h
  refine r_aload_n (x := (some h0)) C d_M_causeOf_0 rfl rfl ?_
  replace h := g_ob h; obtain ⟨x1, e_x1, h⟩ := h
  refine r_getR C f_M_39 d_M_causeOf_1 e_x1 ?_
  refine r_iload_n (x := p1) C d_M_causeOf_4 rfl rfl ?_
  replace h := g_ob h; obtain ⟨a2, rfl, h⟩ := h
  replace h := g_ob h; obtain ⟨x3, e_x3, h⟩ := h
  refine r_iald C ak_100 d_M_causeOf_5 e_x3 ?_
  refine r_if_ne C 11 d_M_causeOf_6 (by decide) (fun c8 => ?_) (fun c8 => ?_)
  · rw [if_neg c8] at h
    refine r_aload_n (x := (some h0)) C d_M_causeOf_11 rfl rfl ?_
    replace h := g_ob h; obtain ⟨x4, e_x4, h⟩ := h
    refine r_getR C f_M_23 d_M_causeOf_12 e_x4 ?_
    refine r_iload_n (x := p1) C d_M_causeOf_15 rfl rfl ?_
    replace h := g_ob h; obtain ⟨a5, rfl, h⟩ := h
    replace h := g_ob h; obtain ⟨x6, e_x6, h⟩ := h
    refine r_zald C ak_102 d_M_causeOf_16 e_x6 ?_
    refine r_if_eq C 22 d_M_causeOf_17 (by decide) (fun c7 => ?_) (fun c7 => ?_)
    · rw [if_pos c7] at h
      refine r_iconst C (0 : Int32) d_M_causeOf_22 (by decide) ?_
      refine r_istore_n (lv' := [(2, tI (0 : Int32)), (0, tR (some h0)), (1, tI p1)]) C d_M_causeOf_23 rfl (by decide) rfl ?_
      refine r_lv [1, 2, 0] rfl ?_
      exact t_M_causeOf_24 C hr  1000 h0 p1 (0 : Int32) V h
    · rw [if_neg c7] at h
      refine r_iconst C (1 : Int32) d_M_causeOf_20 (by decide) ?_
      cases h
      exact r_iret C hr d_M_causeOf_21
  · rw [if_pos c8] at h
    refine r_iconst C (0 : Int32) d_M_causeOf_9 (by decide) ?_
    cases h
    exact r_iret C hr d_M_causeOf_10
theorem c_M_causeOf (l : Launch) (E : gE) (base bA : Nat) (h0 : Nat) (p1 : Int32) (L : gL) (V : gV) {z : Int32 × gV} (h : D_M_causeOf h0 p1 L V = some z) : g_Met l E base bA y_M_causeOf b_M_causeOf 3 (some .int) rm_M_causeOf [tR (some h0), tI p1] L V (some (tI z.1)) L z.2 :=
  r_enter R_M (by decide) rfl [tR (some h0), tI p1] [(0, tR (some h0)), (1, tI p1)] rfl (Nat.le_of_ble_eq_true rfl) (fun p e s m args below meth c C hr hnm => t_M_causeOf_0 C hr h0 p1 V h)
def rm_M_work : Room := { frames := 5, cells := 0, slots := 0, locals := 114 }
def D_M_work_216 (L : gL) (v0 : Nat) (v1 : Int32) (v4 : Int64) (v6 : Int32) (V : gV) : Option (Unit × gV) :=
  Option.bind (g_rR L V 4 v0 14) fun x1 =>
    g_b2 (D_M_record4 v1 (0 : Int32) L V) fun r2 V3 =>
    Option.bind x1 fun a4 =>
    Option.bind (g_wa L V3 101 a4 r2 (tJ v4)) fun V5 =>
    Option.bind (g_rR L V5 4 v0 13) fun x6 =>
    g_b2 (D_M_record4 v1 (0 : Int32) L V5) fun r7 V8 =>
    Option.bind x6 fun a9 =>
    Option.bind (g_wa L V8 100 a9 r7 (tI v6)) fun V10 =>
    some ((), V10)
def D_M_work_82 (L : gL) : Nat → Nat → Int32 → Int64 → Int32 → Int32 → gV → Option (Unit × gV)
  | 0, _, _, _, _, _, _ => none
  | n + 1, v0, v1, v4, v6, v7, V =>
  Option.bind (g_rR L V 4 v0 9) fun x1 =>
    Option.bind x1 fun a2 =>
    Option.bind (g_aI L V 100 a2 v1) fun x3 =>
    (if x3 ≤ v7 then
    (if v6 = (-1 : Int32) then
    Option.bind (g_rR L V 4 v0 5) fun x4 =>
    Option.bind x4 fun a5 =>
    Option.bind (g_aJ L V 101 a5 v1) fun x6 =>
    (if (lg_cmp x6 (0 : Int64)) = 0 then
    D_M_work_216 L  v0 v1 v4 v6 V
  else
    Option.bind (g_rR L V 4 v0 5) fun x7 =>
    Option.bind x7 fun a8 =>
    Option.bind (g_aJ L V 101 a8 v1) fun x9 =>
    (if x9 = 0 then none else
    (if (lg_cmp (v4 - v4 / x9 * x9) (0 : Int64)) = 0 then
    D_M_work_216 L  v0 v1 v4 (6 : Int32) V
  else
    D_M_work_216 L  v0 v1 v4 v6 V)))
  else
    D_M_work_216 L  v0 v1 v4 v6 V)
  else
    g_b2 (D_M_record4 v1 (0 : Int32) L V) fun r14 V15 =>
    Option.bind (g_rR L V15 4 v0 15) fun x16 =>
    Option.bind ((L).2 4 v0) fun n36 =>
    g_b2 (D_M_valueNow v0 v1 v7 L V15) fun r17 V18 =>
    Option.bind x16 fun a19 =>
    Option.bind (g_wa L V18 101 a19 (((6 : Int32) * r14) + v7) (tJ r17)) fun V20 =>
    Option.bind (g_rR L V20 4 v0 16) fun x21 =>
    Option.bind ((L).2 4 v0) fun n35 =>
    g_b2 (D_M_thereNow v0 v1 v7 L V20) fun r22 V23 =>
    Option.bind x21 fun a24 =>
    Option.bind (g_bz r22) fun _ =>
    Option.bind (g_wa L V23 102 a24 (((6 : Int32) * r14) + v7) (tI r22)) fun V25 =>
    Option.bind (g_rR L V25 4 v0 15) fun x26 =>
    Option.bind x26 fun a27 =>
    Option.bind (g_aJ L V25 101 a27 (((6 : Int32) * r14) + v7)) fun x28 =>
    (if v6 = (-1 : Int32) then
    Option.bind (g_rR L V25 4 v0 16) fun x29 =>
    Option.bind x29 fun a30 =>
    Option.bind (g_aI L V25 102 a30 (((6 : Int32) * r14) + v7)) fun x31 =>
    (if x31 = 0 then
    D_M_work_82 L  n v0 v1 (((31 : Int64) * v4) + x28) v7 (v7 + (1 : Int32)) V25
  else
    D_M_work_82 L  n v0 v1 (((31 : Int64) * v4) + x28) v6 (v7 + (1 : Int32)) V25)
  else
    D_M_work_82 L  n v0 v1 (((31 : Int64) * v4) + x28) v6 (v7 + (1 : Int32)) V25))
def D_M_work_63 (L : gL) (v0 : Nat) (v1 : Int32) (v3 : Int32) (s0 : Int32) (s1 : Int32) (s2 : Int32) (s3 : Nat) (V : gV) : Option (Unit × gV) :=
  Option.bind (g_wa L V 100 s3 s2 (tI (s1 + s0))) fun V1 =>
    Option.bind ((L).2 4 v0) fun n4 =>
    g_b2 (D_M_moveBack v0 v1 v3 L V1) fun r2 V3 =>
    D_M_work_82 L  1000 v0 v1 (17 : Int64) (-1 : Int32) (0 : Int32) V3
def D_M_work_62 (L : gL) (v0 : Nat) (v1 : Int32) (v3 : Int32) (s0 : Int32) (s1 : Int32) (s2 : Nat) (V : gV) : Option (Unit × gV) :=
  D_M_work_63 L  v0 v1 v3 (0 : Int32) s0 s1 s2 V
def D_M_work_35 (L : gL) (v0 : Nat) (v1 : Int32) (v2 : Int32) (s0 : Int32) (V : gV) : Option (Unit × gV) :=
  Option.bind (g_rR L V 4 v0 12) fun x1 =>
    Option.bind x1 fun a2 =>
    Option.bind (g_aI L V 100 a2 v1) fun x3 =>
    (if v2 = (-1 : Int32) then
    Option.bind (g_rR L V 4 v0 12) fun x4 =>
    Option.bind x4 fun a5 =>
    Option.bind (g_aI L V 100 a5 v1) fun x6 =>
    (if (3 : Int32) ≤ x6 then
    D_M_work_62 L  v0 v1 s0 x3 v1 a2 V
  else
    D_M_work_63 L  v0 v1 s0 (1 : Int32) x3 v1 a2 V)
  else
    D_M_work_62 L  v0 v1 s0 x3 v1 a2 V)
def D_M_work (h0 : Nat) (p1 : Int32) (L : gL) (V : gV) : Option (Unit × gV) :=
  Option.bind ((L).2 4 h0) fun n11 =>
    g_b2 (D_M_matching h0 p1 L V) fun r1 V2 =>
    (if r1 = (-1 : Int32) then
    Option.bind (g_rR L V2 4 h0 12) fun x3 =>
    Option.bind x3 fun a4 =>
    Option.bind (g_aI L V2 100 a4 p1) fun x5 =>
    (if (3 : Int32) ≤ x5 then
    D_M_work_35 L  h0 p1 r1 (2 : Int32) V2
  else
    Option.bind (g_rR L V2 4 h0 12) fun x6 =>
    Option.bind x6 fun a7 =>
    Option.bind (g_aI L V2 100 a7 p1) fun x8 =>
    D_M_work_35 L  h0 p1 r1 x8 V2)
  else
    D_M_work_35 L  h0 p1 r1 r1 V2)
set_option maxHeartbeats 4000000 in
set_option maxRecDepth 100000 in
theorem t_M_work_216 (C : gC E base p s m args meth c b_M_work R_M 9) (hr : meth.sig.returnType = none) {z : Unit × gV} (v0 : Nat) (v1 : Int32) (v4 : Int64) (v6 : Int32) (V : gV) (h : D_M_work_216 L  v0 v1 v4 v6 V = some z) : vW E base base 9 p l e rm_M_work s m args below meth c 0 0 (g_MQ E base base below args s 0 0 L z.2 none) L V 216 [(0, tR (some v0)), (1, tI v1), (4, tJ v4), (6, tI v6)] [] := by
  unfold D_M_work_216 at h
  refine r_aload_n (x := (some v0)) C d_M_work_216 rfl rfl ?_
  replace h := g_ob h; obtain ⟨x1, e_x1, h⟩ := h
  refine r_getR C f_M_45 d_M_work_217 e_x1 ?_
  refine r_iload_n (x := v1) C d_M_work_220 rfl rfl ?_
  refine r_iconst C (0 : Int32) d_M_work_221 (by decide) ?_
  replace h := g_o2 h; obtain ⟨r2, V3, e_r2, h⟩ := h
  refine r_callS (As := [tI v1, tI (0 : Int32)]) C k_M_93 w_273 w_271 (c_M_record4 l E base base v1 (0 : Int32) L V e_r2) d_M_work_222 rfl ⟨Nat.le_of_ble_eq_true rfl, Nat.le_of_ble_eq_true rfl⟩ (Nat.le_of_ble_eq_true rfl) (Nat.le_of_ble_eq_true rfl) (Nat.le_of_ble_eq_true rfl) rfl ?_
  refine r_lload (x := v4) C d_M_work_225 rfl ?_
  replace h := g_ob h; obtain ⟨a4, rfl, h⟩ := h
  replace h := g_ob h; obtain ⟨V5, e_V5, h⟩ := h
  refine r_last C ak_101 d_M_work_227 e_V5 ?_
  refine r_aload_n (x := (some v0)) C d_M_work_228 rfl rfl ?_
  replace h := g_ob h; obtain ⟨x6, e_x6, h⟩ := h
  refine r_getR C f_M_42 d_M_work_229 e_x6 ?_
  refine r_iload_n (x := v1) C d_M_work_232 rfl rfl ?_
  refine r_iconst C (0 : Int32) d_M_work_233 (by decide) ?_
  replace h := g_o2 h; obtain ⟨r7, V8, e_r7, h⟩ := h
  refine r_callS (As := [tI v1, tI (0 : Int32)]) C k_M_93 w_273 w_271 (c_M_record4 l E base base v1 (0 : Int32) L V5 e_r7) d_M_work_234 rfl ⟨Nat.le_of_ble_eq_true rfl, Nat.le_of_ble_eq_true rfl⟩ (Nat.le_of_ble_eq_true rfl) (Nat.le_of_ble_eq_true rfl) (Nat.le_of_ble_eq_true rfl) rfl ?_
  refine r_iload (x := v6) C d_M_work_237 rfl ?_
  replace h := g_ob h; obtain ⟨a9, rfl, h⟩ := h
  replace h := g_ob h; obtain ⟨V10, e_V10, h⟩ := h
  refine r_iast C ak_100 d_M_work_239 e_V10 ?_
  cases h
  exact r_vret C hr d_M_work_240
set_option maxHeartbeats 4000000 in
set_option maxRecDepth 100000 in
theorem t_M_work_82 (C : gC E base p s m args meth c b_M_work R_M 9) (hr : meth.sig.returnType = none) {z : Unit × gV} : ∀ (n : Nat) (v0 : Nat) (v1 : Int32) (v4 : Int64) (v6 : Int32) (v7 : Int32) (V : gV), D_M_work_82 L  n v0 v1 v4 v6 v7 V = some z → vW E base base 9 p l e rm_M_work s m args below meth c 0 0 (g_MQ E base base below args s 0 0 L z.2 none) L V 82 [(0, tR (some v0)), (1, tI v1), (4, tJ v4), (6, tI v6), (7, tI v7)] [] := by
  intro n
  induction n with
  | zero =>
    intro v0 v1 v4 v6 v7 V h
    rw [D_M_work_82] at h
    cases h
  | succ n ih =>
    intro v0 v1 v4 v6 v7 V h
    rw [D_M_work_82] at h
    refine r_iload (x := v7) C d_M_work_82 rfl ?_
    refine r_aload_n (x := (some v0)) C d_M_work_84 rfl rfl ?_
    replace h := g_ob h; obtain ⟨x1, e_x1, h⟩ := h
    refine r_getR C f_M_30 d_M_work_85 e_x1 ?_
    refine r_iload_n (x := v1) C d_M_work_88 rfl rfl ?_
    replace h := g_ob h; obtain ⟨a2, rfl, h⟩ := h
    replace h := g_ob h; obtain ⟨x3, e_x3, h⟩ := h
    refine r_iald C ak_100 d_M_work_89 e_x3 ?_
    refine r_icmp_ge C 181 d_M_work_90 (by decide) (fun c37 => ?_) (fun c37 => ?_)
    · rw [if_pos c37] at h
      refine r_iload (x := v6) C d_M_work_181 rfl ?_
      refine r_iconst C (-1 : Int32) d_M_work_183 (by decide) ?_
      refine r_icmp_ne C 216 d_M_work_184 (by decide) (fun c13 => ?_) (fun c13 => ?_)
      · rw [if_neg c13] at h
        refine r_lv [0, 1, 2, 3] rfl ?_
        exact t_M_work_216 C hr  v0 v1 v4 v6 V h
      · rw [if_pos c13] at h
        refine r_aload_n (x := (some v0)) C d_M_work_187 rfl rfl ?_
        replace h := g_ob h; obtain ⟨x4, e_x4, h⟩ := h
        refine r_getR C f_M_16 d_M_work_188 e_x4 ?_
        refine r_iload_n (x := v1) C d_M_work_191 rfl rfl ?_
        replace h := g_ob h; obtain ⟨a5, rfl, h⟩ := h
        replace h := g_ob h; obtain ⟨x6, e_x6, h⟩ := h
        refine r_lald C ak_101 d_M_work_192 e_x6 ?_
        refine r_lconst C (0 : Int64) d_M_work_193 (by decide) ?_
        refine r_lcmp C d_M_work_194 ?_
        refine r_if_eq C 216 d_M_work_195 (by decide) (fun c12 => ?_) (fun c12 => ?_)
        · rw [if_pos c12] at h
          refine r_lv [0, 1, 2, 3] rfl ?_
          exact t_M_work_216 C hr  v0 v1 v4 v6 V h
        · rw [if_neg c12] at h
          refine r_lload (x := v4) C d_M_work_198 rfl ?_
          refine r_aload_n (x := (some v0)) C d_M_work_200 rfl rfl ?_
          replace h := g_ob h; obtain ⟨x7, e_x7, h⟩ := h
          refine r_getR C f_M_16 d_M_work_201 e_x7 ?_
          refine r_iload_n (x := v1) C d_M_work_204 rfl rfl ?_
          replace h := g_ob h; obtain ⟨a8, rfl, h⟩ := h
          replace h := g_ob h; obtain ⟨x9, e_x9, h⟩ := h
          refine r_lald C ak_101 d_M_work_205 e_x9 ?_
          by_cases c11 : x9 = 0
          · rw [if_pos c11] at h; cases h
          rw [if_neg c11] at h
          refine r_lrem C d_M_work_206 c11 ?_
          refine r_lconst C (0 : Int64) d_M_work_207 (by decide) ?_
          refine r_lcmp C d_M_work_208 ?_
          refine r_if_ne C 216 d_M_work_209 (by decide) (fun c10 => ?_) (fun c10 => ?_)
          · rw [if_neg c10] at h
            refine r_lv [0, 1, 2, 3] rfl ?_
            exact t_M_work_216 C hr  v0 v1 v4 v6 V h
          · rw [if_pos c10] at h
            refine r_bipush C (6 : Int32) d_M_work_212 (by decide) ?_
            refine r_istore (lv' := [(6, tI (6 : Int32)), (0, tR (some v0)), (1, tI v1), (4, tJ v4), (7, tI v7)]) C d_M_work_214 (by decide) rfl ?_
            refine r_lv [1, 2, 3, 0] rfl ?_
            exact t_M_work_216 C hr  v0 v1 v4 (6 : Int32) V h
    · rw [if_neg c37] at h
      refine r_bipush C (6 : Int32) d_M_work_93 (by decide) ?_
      refine r_iload_n (x := v1) C d_M_work_95 rfl rfl ?_
      refine r_iconst C (0 : Int32) d_M_work_96 (by decide) ?_
      replace h := g_o2 h; obtain ⟨r14, V15, e_r14, h⟩ := h
      refine r_callS (As := [tI v1, tI (0 : Int32)]) C k_M_93 w_273 w_271 (c_M_record4 l E base base v1 (0 : Int32) L V e_r14) d_M_work_97 rfl ⟨Nat.le_of_ble_eq_true rfl, Nat.le_of_ble_eq_true rfl⟩ (Nat.le_of_ble_eq_true rfl) (Nat.le_of_ble_eq_true rfl) (Nat.le_of_ble_eq_true rfl) rfl ?_
      refine r_imul C d_M_work_100 ?_
      refine r_iload (x := v7) C d_M_work_101 rfl ?_
      refine r_iadd C d_M_work_103 ?_
      refine r_istore (lv' := [(8, tI (((6 : Int32) * r14) + v7)), (0, tR (some v0)), (1, tI v1), (4, tJ v4), (6, tI v6), (7, tI v7)]) C d_M_work_104 (by decide) rfl ?_
      refine r_aload_n (x := (some v0)) C d_M_work_106 rfl rfl ?_
      replace h := g_ob h; obtain ⟨x16, e_x16, h⟩ := h
      refine r_getR C f_M_48 d_M_work_107 e_x16 ?_
      refine r_iload (x := ((6 : Int32) * r14) + v7) C d_M_work_110 rfl ?_
      refine r_aload_n (x := (some v0)) C d_M_work_112 rfl rfl ?_
      refine r_iload_n (x := v1) C d_M_work_113 rfl rfl ?_
      refine r_iload (x := v7) C d_M_work_114 rfl ?_
      replace h := g_ob h; obtain ⟨n36, e_n36, h⟩ := h
      replace h := g_o2 h; obtain ⟨r17, V18, e_r17, h⟩ := h
      refine r_callV (As := [tI v1, tI v7]) C k_M_108 w_286 w_287 w_284 ⟨_, _, rfl⟩ (c_M_valueNow l E base base v0 v1 v7 L V15 e_r17) d_M_work_116 e_n36 rfl ⟨Nat.le_of_ble_eq_true rfl, Nat.le_of_ble_eq_true rfl⟩ (Nat.le_of_ble_eq_true rfl) (Nat.le_of_ble_eq_true rfl) (Nat.le_of_ble_eq_true rfl) rfl ?_
      replace h := g_ob h; obtain ⟨a19, rfl, h⟩ := h
      replace h := g_ob h; obtain ⟨V20, e_V20, h⟩ := h
      refine r_last C ak_101 d_M_work_119 e_V20 ?_
      refine r_aload_n (x := (some v0)) C d_M_work_120 rfl rfl ?_
      replace h := g_ob h; obtain ⟨x21, e_x21, h⟩ := h
      refine r_getR C f_M_51 d_M_work_121 e_x21 ?_
      refine r_iload (x := ((6 : Int32) * r14) + v7) C d_M_work_124 rfl ?_
      refine r_aload_n (x := (some v0)) C d_M_work_126 rfl rfl ?_
      refine r_iload_n (x := v1) C d_M_work_127 rfl rfl ?_
      refine r_iload (x := v7) C d_M_work_128 rfl ?_
      replace h := g_ob h; obtain ⟨n35, e_n35, h⟩ := h
      replace h := g_o2 h; obtain ⟨r22, V23, e_r22, h⟩ := h
      refine r_callV (As := [tI v1, tI v7]) C k_M_105 w_288 w_289 w_282 ⟨_, _, rfl⟩ (c_M_thereNow l E base base v0 v1 v7 L V20 e_r22) d_M_work_130 e_n35 rfl ⟨Nat.le_of_ble_eq_true rfl, Nat.le_of_ble_eq_true rfl⟩ (Nat.le_of_ble_eq_true rfl) (Nat.le_of_ble_eq_true rfl) (Nat.le_of_ble_eq_true rfl) rfl ?_
      replace h := g_ob h; obtain ⟨a24, rfl, h⟩ := h
      replace h := g_ob h; obtain ⟨u34, e_u34, h⟩ := h
      replace h := g_ob h; obtain ⟨V25, e_V25, h⟩ := h
      refine r_zast C ak_102 d_M_work_133 (g_bz_spec e_u34) e_V25 ?_
      refine r_ldc2 C (31 : Int64) d_M_work_134 w_307 ?_
      refine r_lload (x := v4) C d_M_work_137 rfl ?_
      refine r_lmul C d_M_work_139 ?_
      refine r_aload_n (x := (some v0)) C d_M_work_140 rfl rfl ?_
      replace h := g_ob h; obtain ⟨x26, e_x26, h⟩ := h
      refine r_getR C f_M_48 d_M_work_141 e_x26 ?_
      refine r_iload (x := ((6 : Int32) * r14) + v7) C d_M_work_144 rfl ?_
      replace h := g_ob h; obtain ⟨a27, rfl, h⟩ := h
      replace h := g_ob h; obtain ⟨x28, e_x28, h⟩ := h
      refine r_lald C ak_101 d_M_work_146 e_x28 ?_
      refine r_ladd C d_M_work_147 ?_
      refine r_lstore (lv' := [(4, tJ (((31 : Int64) * v4) + x28)), (8, tI (((6 : Int32) * r14) + v7)), (0, tR (some v0)), (1, tI v1), (6, tI v6), (7, tI v7)]) C d_M_work_148 (by decide) rfl ?_
      refine r_iload (x := v6) C d_M_work_150 rfl ?_
      refine r_iconst C (-1 : Int32) d_M_work_152 (by decide) ?_
      refine r_icmp_ne C 171 d_M_work_153 (by decide) (fun c33 => ?_) (fun c33 => ?_)
      · rw [if_neg c33] at h
        refine r_iload (x := v6) C d_M_work_171 rfl ?_
        refine r_istore (lv' := [(6, tI v6), (4, tJ (((31 : Int64) * v4) + x28)), (8, tI (((6 : Int32) * r14) + v7)), (0, tR (some v0)), (1, tI v1), (7, tI v7)]) C d_M_work_173 (by decide) rfl ?_
        refine r_iinc (x := v7) (v := v7 + (1 : Int32)) (lv' := [(7, tI (v7 + (1 : Int32))), (6, tI v6), (4, tJ (((31 : Int64) * v4) + x28)), (8, tI (((6 : Int32) * r14) + v7)), (0, tR (some v0)), (1, tI v1)]) C d_M_work_175 rfl rfl (by decide) rfl ?_
        refine r_goto C 82 d_M_work_178 (by decide) ?_
        refine r_lv [4, 5, 2, 1, 0] rfl ?_
        exact ih v0 v1 (((31 : Int64) * v4) + x28) v6 (v7 + (1 : Int32)) V25 h
      · rw [if_pos c33] at h
        refine r_aload_n (x := (some v0)) C d_M_work_156 rfl rfl ?_
        replace h := g_ob h; obtain ⟨x29, e_x29, h⟩ := h
        refine r_getR C f_M_51 d_M_work_157 e_x29 ?_
        refine r_iload (x := ((6 : Int32) * r14) + v7) C d_M_work_160 rfl ?_
        replace h := g_ob h; obtain ⟨a30, rfl, h⟩ := h
        replace h := g_ob h; obtain ⟨x31, e_x31, h⟩ := h
        refine r_zald C ak_102 d_M_work_162 e_x31 ?_
        refine r_if_ne C 171 d_M_work_163 (by decide) (fun c32 => ?_) (fun c32 => ?_)
        · rw [if_neg c32] at h
          refine r_iload (x := v6) C d_M_work_171 rfl ?_
          refine r_istore (lv' := [(6, tI v6), (4, tJ (((31 : Int64) * v4) + x28)), (8, tI (((6 : Int32) * r14) + v7)), (0, tR (some v0)), (1, tI v1), (7, tI v7)]) C d_M_work_173 (by decide) rfl ?_
          refine r_iinc (x := v7) (v := v7 + (1 : Int32)) (lv' := [(7, tI (v7 + (1 : Int32))), (6, tI v6), (4, tJ (((31 : Int64) * v4) + x28)), (8, tI (((6 : Int32) * r14) + v7)), (0, tR (some v0)), (1, tI v1)]) C d_M_work_175 rfl rfl (by decide) rfl ?_
          refine r_goto C 82 d_M_work_178 (by decide) ?_
          refine r_lv [4, 5, 2, 1, 0] rfl ?_
          exact ih v0 v1 (((31 : Int64) * v4) + x28) v6 (v7 + (1 : Int32)) V25 h
        · rw [if_pos c32] at h
          refine r_iload (x := v7) C d_M_work_166 rfl ?_
          refine r_goto C 173 d_M_work_168 (by decide) ?_
          refine r_istore (lv' := [(6, tI v7), (4, tJ (((31 : Int64) * v4) + x28)), (8, tI (((6 : Int32) * r14) + v7)), (0, tR (some v0)), (1, tI v1), (7, tI v7)]) C d_M_work_173 (by decide) rfl ?_
          refine r_iinc (x := v7) (v := v7 + (1 : Int32)) (lv' := [(7, tI (v7 + (1 : Int32))), (6, tI v7), (4, tJ (((31 : Int64) * v4) + x28)), (8, tI (((6 : Int32) * r14) + v7)), (0, tR (some v0)), (1, tI v1)]) C d_M_work_175 rfl rfl (by decide) rfl ?_
          refine r_goto C 82 d_M_work_178 (by decide) ?_
          refine r_lv [4, 5, 2, 1, 0] rfl ?_
          exact ih v0 v1 (((31 : Int64) * v4) + x28) v7 (v7 + (1 : Int32)) V25 h
set_option maxHeartbeats 4000000 in
set_option maxRecDepth 100000 in
theorem t_M_work_63 (C : gC E base p s m args meth c b_M_work R_M 9) (hr : meth.sig.returnType = none) {z : Unit × gV} (v0 : Nat) (v1 : Int32) (v3 : Int32) (s0 : Int32) (s1 : Int32) (s2 : Int32) (s3 : Nat) (V : gV) (h : D_M_work_63 L  v0 v1 v3 s0 s1 s2 s3 V = some z) : vW E base base 9 p l e rm_M_work s m args below meth c 0 0 (g_MQ E base base below args s 0 0 L z.2 none) L V 63 [(0, tR (some v0)), (1, tI v1), (3, tI v3)] [tI s0, tI s1, tI s2, tR (some s3)] := by
  unfold D_M_work_63 at h
  refine r_iadd C d_M_work_63 ?_
  replace h := g_ob h; obtain ⟨V1, e_V1, h⟩ := h
  refine r_iast C ak_100 d_M_work_64 e_V1 ?_
  refine r_aload_n (x := (some v0)) C d_M_work_65 rfl rfl ?_
  refine r_iload_n (x := v1) C d_M_work_66 rfl rfl ?_
  refine r_iload_n (x := v3) C d_M_work_67 rfl rfl ?_
  replace h := g_ob h; obtain ⟨n4, e_n4, h⟩ := h
  replace h := g_o2 h; obtain ⟨r2, V3, e_r2, h⟩ := h
  refine r_callV (As := [tI v1, tI v3]) C k_M_118 w_300 w_301 w_298 ⟨_, _, rfl⟩ (c_M_moveBack l E base v0 v1 v3 L V1 e_r2) d_M_work_68 e_n4 rfl ⟨Nat.le_of_ble_eq_true rfl, Nat.le_of_ble_eq_true rfl⟩ (Nat.le_of_ble_eq_true rfl) (Nat.le_of_ble_eq_true rfl) (Nat.le_of_ble_eq_true rfl) rfl ?_
  refine r_ldc2 C (17 : Int64) d_M_work_71 w_306 ?_
  refine r_lstore (lv' := [(4, tJ (17 : Int64)), (0, tR (some v0)), (1, tI v1), (3, tI v3)]) C d_M_work_74 (by decide) rfl ?_
  refine r_iconst C (-1 : Int32) d_M_work_76 (by decide) ?_
  refine r_istore (lv' := [(6, tI (-1 : Int32)), (4, tJ (17 : Int64)), (0, tR (some v0)), (1, tI v1), (3, tI v3)]) C d_M_work_77 (by decide) rfl ?_
  refine r_iconst C (0 : Int32) d_M_work_79 (by decide) ?_
  refine r_istore (lv' := [(7, tI (0 : Int32)), (6, tI (-1 : Int32)), (4, tJ (17 : Int64)), (0, tR (some v0)), (1, tI v1), (3, tI v3)]) C d_M_work_80 (by decide) rfl ?_
  refine r_lv [3, 4, 2, 1, 0] rfl ?_
  exact t_M_work_82 C hr  1000 v0 v1 (17 : Int64) (-1 : Int32) (0 : Int32) V3 h
set_option maxHeartbeats 4000000 in
set_option maxRecDepth 100000 in
theorem t_M_work_62 (C : gC E base p s m args meth c b_M_work R_M 9) (hr : meth.sig.returnType = none) {z : Unit × gV} (v0 : Nat) (v1 : Int32) (v3 : Int32) (s0 : Int32) (s1 : Int32) (s2 : Nat) (V : gV) (h : D_M_work_62 L  v0 v1 v3 s0 s1 s2 V = some z) : vW E base base 9 p l e rm_M_work s m args below meth c 0 0 (g_MQ E base base below args s 0 0 L z.2 none) L V 62 [(0, tR (some v0)), (1, tI v1), (3, tI v3)] [tI s0, tI s1, tR (some s2)] := by
  unfold D_M_work_62 at h
  refine r_iconst C (0 : Int32) d_M_work_62 (by decide) ?_
  exact t_M_work_63 C hr  v0 v1 v3 (0 : Int32) s0 s1 s2 V h
set_option maxHeartbeats 4000000 in
set_option maxRecDepth 100000 in
theorem t_M_work_35 (C : gC E base p s m args meth c b_M_work R_M 9) (hr : meth.sig.returnType = none) {z : Unit × gV} (v0 : Nat) (v1 : Int32) (v2 : Int32) (s0 : Int32) (V : gV) (h : D_M_work_35 L  v0 v1 v2 s0 V = some z) : vW E base base 9 p l e rm_M_work s m args below meth c 0 0 (g_MQ E base base below args s 0 0 L z.2 none) L V 35 [(0, tR (some v0)), (1, tI v1), (2, tI v2)] [tI s0] := by
  unfold D_M_work_35 at h
  refine r_istore_n (lv' := [(3, tI s0), (0, tR (some v0)), (1, tI v1), (2, tI v2)]) C d_M_work_35 rfl (by decide) rfl ?_
  refine r_aload_n (x := (some v0)) C d_M_work_36 rfl rfl ?_
  replace h := g_ob h; obtain ⟨x1, e_x1, h⟩ := h
  refine r_getR C f_M_39 d_M_work_37 e_x1 ?_
  refine r_iload_n (x := v1) C d_M_work_40 rfl rfl ?_
  refine r_dup2 C d_M_work_41 rfl rfl ?_
  replace h := g_ob h; obtain ⟨a2, rfl, h⟩ := h
  replace h := g_ob h; obtain ⟨x3, e_x3, h⟩ := h
  refine r_iald C ak_100 d_M_work_42 e_x3 ?_
  refine r_iload_n (x := v2) C d_M_work_43 rfl rfl ?_
  refine r_iconst C (-1 : Int32) d_M_work_44 (by decide) ?_
  refine r_icmp_ne C 62 d_M_work_45 (by decide) (fun c8 => ?_) (fun c8 => ?_)
  · rw [if_neg c8] at h
    refine r_lv [1, 2, 0] rfl ?_
    exact t_M_work_62 C hr  v0 v1 s0 x3 v1 a2 V h
  · rw [if_pos c8] at h
    refine r_aload_n (x := (some v0)) C d_M_work_48 rfl rfl ?_
    replace h := g_ob h; obtain ⟨x4, e_x4, h⟩ := h
    refine r_getR C f_M_39 d_M_work_49 e_x4 ?_
    refine r_iload_n (x := v1) C d_M_work_52 rfl rfl ?_
    replace h := g_ob h; obtain ⟨a5, rfl, h⟩ := h
    replace h := g_ob h; obtain ⟨x6, e_x6, h⟩ := h
    refine r_iald C ak_100 d_M_work_53 e_x6 ?_
    refine r_iconst C (3 : Int32) d_M_work_54 (by decide) ?_
    refine r_icmp_ge C 62 d_M_work_55 (by decide) (fun c7 => ?_) (fun c7 => ?_)
    · rw [if_pos c7] at h
      refine r_lv [1, 2, 0] rfl ?_
      exact t_M_work_62 C hr  v0 v1 s0 x3 v1 a2 V h
    · rw [if_neg c7] at h
      refine r_iconst C (1 : Int32) d_M_work_58 (by decide) ?_
      refine r_goto C 63 d_M_work_59 (by decide) ?_
      refine r_lv [1, 2, 0] rfl ?_
      exact t_M_work_63 C hr  v0 v1 s0 (1 : Int32) x3 v1 a2 V h
set_option maxHeartbeats 4000000 in
set_option maxRecDepth 100000 in
theorem t_M_work_0 (C : gC E base p s m args meth c b_M_work R_M 9) (hr : meth.sig.returnType = none) {z : Unit × gV} (h0 : Nat) (p1 : Int32) (V : gV) (h : D_M_work h0 p1 L V = some z) : vW E base base 9 p l e rm_M_work s m args below meth c 0 0 (g_MQ E base base below args s 0 0 L z.2 none) L V 0 [(0, tR (some h0)), (1, tI p1)] [] := by
  unfold D_M_work at h
  refine r_aload_n (x := (some h0)) C d_M_work_0 rfl rfl ?_
  refine r_iload_n (x := p1) C d_M_work_1 rfl rfl ?_
  replace h := g_ob h; obtain ⟨n11, e_n11, h⟩ := h
  replace h := g_o2 h; obtain ⟨r1, V2, e_r1, h⟩ := h
  refine r_callV (As := [tI p1]) C k_M_122 w_304 w_305 w_302 ⟨_, _, rfl⟩ (c_M_matching l E base base h0 p1 L V e_r1) d_M_work_2 e_n11 rfl ⟨Nat.le_of_ble_eq_true rfl, Nat.le_of_ble_eq_true rfl⟩ (Nat.le_of_ble_eq_true rfl) (Nat.le_of_ble_eq_true rfl) (Nat.le_of_ble_eq_true rfl) rfl ?_
  refine r_istore_n (lv' := [(2, tI r1), (0, tR (some h0)), (1, tI p1)]) C d_M_work_5 rfl (by decide) rfl ?_
  refine r_iload_n (x := r1) C d_M_work_6 rfl rfl ?_
  refine r_iconst C (-1 : Int32) d_M_work_7 (by decide) ?_
  refine r_icmp_eq C 15 d_M_work_8 (by decide) (fun c10 => ?_) (fun c10 => ?_)
  · rw [if_pos c10] at h
    refine r_aload_n (x := (some h0)) C d_M_work_15 rfl rfl ?_
    replace h := g_ob h; obtain ⟨x3, e_x3, h⟩ := h
    refine r_getR C f_M_39 d_M_work_16 e_x3 ?_
    refine r_iload_n (x := p1) C d_M_work_19 rfl rfl ?_
    replace h := g_ob h; obtain ⟨a4, rfl, h⟩ := h
    replace h := g_ob h; obtain ⟨x5, e_x5, h⟩ := h
    refine r_iald C ak_100 d_M_work_20 e_x5 ?_
    refine r_iconst C (3 : Int32) d_M_work_21 (by decide) ?_
    refine r_icmp_ge C 34 d_M_work_22 (by decide) (fun c9 => ?_) (fun c9 => ?_)
    · rw [if_pos c9] at h
      refine r_iconst C (2 : Int32) d_M_work_34 (by decide) ?_
      refine r_lv [1, 2, 0] rfl ?_
      exact t_M_work_35 C hr  h0 p1 r1 (2 : Int32) V2 h
    · rw [if_neg c9] at h
      refine r_aload_n (x := (some h0)) C d_M_work_25 rfl rfl ?_
      replace h := g_ob h; obtain ⟨x6, e_x6, h⟩ := h
      refine r_getR C f_M_39 d_M_work_26 e_x6 ?_
      refine r_iload_n (x := p1) C d_M_work_29 rfl rfl ?_
      replace h := g_ob h; obtain ⟨a7, rfl, h⟩ := h
      replace h := g_ob h; obtain ⟨x8, e_x8, h⟩ := h
      refine r_iald C ak_100 d_M_work_30 e_x8 ?_
      refine r_goto C 35 d_M_work_31 (by decide) ?_
      refine r_lv [1, 2, 0] rfl ?_
      exact t_M_work_35 C hr  h0 p1 r1 x8 V2 h
  · rw [if_neg c10] at h
    refine r_iload_n (x := r1) C d_M_work_11 rfl rfl ?_
    refine r_goto C 35 d_M_work_12 (by decide) ?_
    refine r_lv [1, 2, 0] rfl ?_
    exact t_M_work_35 C hr  h0 p1 r1 r1 V2 h
theorem c_M_work (l : Launch) (E : gE) (base : Nat) (h0 : Nat) (p1 : Int32) (L : gL) (V : gV) {z : Unit × gV} (h : D_M_work h0 p1 L V = some z) : g_Met l E base base y_M_work b_M_work 9 none rm_M_work [tR (some h0), tI p1] L V none L z.2 :=
  r_enter R_M (by decide) rfl [tR (some h0), tI p1] [(0, tR (some h0)), (1, tI p1)] rfl (Nat.le_of_ble_eq_true rfl) (fun p e s m args below meth c C hr hnm => t_M_work_0 C hr h0 p1 V h)
def rm_M_compare : Room := { frames := 2, cells := 0, slots := 0, locals := 43 }
def D_M_compare_90 (L : gL) (v0 : Nat) (v7 : Int32) (v8 : Int32) (s0 : Int32) (s1 : Int32) (s2 : Int32) (s3 : Nat) (V : gV) : Option (Unit × gV) :=
  Option.bind (g_wa L V 100 s3 s2 (tI (s1 + s0))) fun V1 =>
    Option.bind (g_rI L V1 4 v0 23) fun x2 =>
    (if v8 = 0 then
    Option.bind (g_wr L V1 4 v0 23 (tI (x2 + (0 : Int32)))) fun V3 =>
    some ((), V3)
  else
    (if v7 = 0 then
    Option.bind (g_wr L V1 4 v0 23 (tI (x2 + (0 : Int32)))) fun V4 =>
    some ((), V4)
  else
    Option.bind (g_wr L V1 4 v0 23 (tI (x2 + (1 : Int32)))) fun V5 =>
    some ((), V5)))
def D_M_compare_89 (L : gL) (v0 : Nat) (v7 : Int32) (v8 : Int32) (s0 : Int32) (s1 : Int32) (s2 : Nat) (V : gV) : Option (Unit × gV) :=
  D_M_compare_90 L  v0 v7 v8 (0 : Int32) s0 s1 s2 V
def D_M_compare_60 (L : gL) (v0 : Nat) (v1 : Int32) (v3 : Int64) (v7 : Int32) (v8 : Int32) (s0 : Int32) (s1 : Int32) (s2 : Int32) (s3 : Nat) (V : gV) : Option (Unit × gV) :=
  Option.bind (g_wa L V 100 s3 s2 (tI (s1 + s0))) fun V1 =>
    Option.bind (g_rR L V1 4 v0 19) fun x2 =>
    Option.bind x2 fun a3 =>
    Option.bind (g_aI L V1 100 a3 (2 : Int32)) fun x4 =>
    (if v8 = 0 then
    Option.bind ((L).2 4 v0) fun n8 =>
    g_b2 (D_M_partOf v0 v1 (0 : Int32) L V1) fun r5 V6 =>
    (if (lg_cmp r5 v3) = 0 then
    D_M_compare_90 L  v0 v7 v8 (1 : Int32) x4 (2 : Int32) a3 V6
  else
    D_M_compare_89 L  v0 v7 v8 x4 (2 : Int32) a3 V6)
  else
    D_M_compare_89 L  v0 v7 v8 x4 (2 : Int32) a3 V1)
def D_M_compare_41 (L : gL) (v0 : Nat) (v1 : Int32) (v3 : Int64) (v7 : Int32) (s0 : Int32) (V : gV) : Option (Unit × gV) :=
  Option.bind (g_rR L V 4 v0 19) fun x1 =>
    Option.bind x1 fun a2 =>
    Option.bind (g_aI L V 100 a2 (1 : Int32)) fun x3 =>
    (if s0 = 0 then
    D_M_compare_60 L  v0 v1 v3 v7 s0 (0 : Int32) x3 (1 : Int32) a2 V
  else
    D_M_compare_60 L  v0 v1 v3 v7 s0 (1 : Int32) x3 (1 : Int32) a2 V)
def D_M_compare_40 (L : gL) (v0 : Nat) (v1 : Int32) (v3 : Int64) (v7 : Int32) (V : gV) : Option (Unit × gV) :=
  D_M_compare_41 L  v0 v1 v3 v7 (0 : Int32) V
def D_M_compare (h0 : Nat) (p1 : Int32) (p2 : Int32) (p3 : Int64) (p5 : Int64) (p7 : Int32) (L : gL) (V : gV) : Option (Unit × gV) :=
  (if p2 = 0 then
    some ((), V)
  else
    Option.bind ((L).2 4 h0) fun n12 =>
    g_b2 (D_M_hasOutput h0 p1 L V) fun r1 V2 =>
    (if r1 = 0 then
    some ((), V2)
  else
    Option.bind ((L).2 4 h0) fun n10 =>
    g_b2 (D_M_partOf h0 p1 (1 : Int32) L V2) fun r3 V4 =>
    (if (lg_cmp r3 p5) = 0 then
    Option.bind ((L).2 4 h0) fun n8 =>
    g_b2 (D_M_partOf h0 p1 (0 : Int32) L V4) fun r5 V6 =>
    (if (lg_cmp r5 p3) = 0 then
    D_M_compare_41 L  h0 p1 p3 p7 (1 : Int32) V6
  else
    D_M_compare_40 L  h0 p1 p3 p7 V6)
  else
    D_M_compare_40 L  h0 p1 p3 p7 V4)))
set_option maxHeartbeats 4000000 in
set_option maxRecDepth 100000 in
theorem t_M_compare_90 (C : gC E base p s m args meth c b_M_compare R_M 9) (hr : meth.sig.returnType = none) {z : Unit × gV} (v0 : Nat) (v7 : Int32) (v8 : Int32) (s0 : Int32) (s1 : Int32) (s2 : Int32) (s3 : Nat) (V : gV) (h : D_M_compare_90 L  v0 v7 v8 s0 s1 s2 s3 V = some z) : vW E base base 9 p l e rm_M_compare s m args below meth c 0 0 (g_MQ E base base below args s 0 0 L z.2 none) L V 90 [(0, tR (some v0)), (7, tI v7), (8, tI v8)] [tI s0, tI s1, tI s2, tR (some s3)] := by
  unfold D_M_compare_90 at h
  refine r_iadd C d_M_compare_90 ?_
  replace h := g_ob h; obtain ⟨V1, e_V1, h⟩ := h
  refine r_iast C ak_100 d_M_compare_91 e_V1 ?_
  refine r_aload_n (x := (some v0)) C d_M_compare_92 rfl rfl ?_
  refine r_dup C d_M_compare_93 rfl ?_
  replace h := g_ob h; obtain ⟨x2, e_x2, h⟩ := h
  refine r_getI C f_M_133 d_M_compare_94 e_x2 ?_
  refine r_iload (x := v8) C d_M_compare_97 rfl ?_
  refine r_if_eq C 111 d_M_compare_99 (by decide) (fun c7 => ?_) (fun c7 => ?_)
  · rw [if_pos c7] at h
    refine r_iconst C (0 : Int32) d_M_compare_111 (by decide) ?_
    refine r_iadd C d_M_compare_112 ?_
    replace h := g_ob h; obtain ⟨V3, e_V3, h⟩ := h
    refine r_put C f_M_133 d_M_compare_113 e_V3 (g_nI (x2 + (0 : Int32))).1 (g_nI (x2 + (0 : Int32))).2 ?_
    cases h
    exact r_vret C hr d_M_compare_116
  · rw [if_neg c7] at h
    refine r_iload (x := v7) C d_M_compare_102 rfl ?_
    refine r_if_eq C 111 d_M_compare_104 (by decide) (fun c6 => ?_) (fun c6 => ?_)
    · rw [if_pos c6] at h
      refine r_iconst C (0 : Int32) d_M_compare_111 (by decide) ?_
      refine r_iadd C d_M_compare_112 ?_
      replace h := g_ob h; obtain ⟨V4, e_V4, h⟩ := h
      refine r_put C f_M_133 d_M_compare_113 e_V4 (g_nI (x2 + (0 : Int32))).1 (g_nI (x2 + (0 : Int32))).2 ?_
      cases h
      exact r_vret C hr d_M_compare_116
    · rw [if_neg c6] at h
      refine r_iconst C (1 : Int32) d_M_compare_107 (by decide) ?_
      refine r_goto C 112 d_M_compare_108 (by decide) ?_
      refine r_iadd C d_M_compare_112 ?_
      replace h := g_ob h; obtain ⟨V5, e_V5, h⟩ := h
      refine r_put C f_M_133 d_M_compare_113 e_V5 (g_nI (x2 + (1 : Int32))).1 (g_nI (x2 + (1 : Int32))).2 ?_
      cases h
      exact r_vret C hr d_M_compare_116
set_option maxHeartbeats 4000000 in
set_option maxRecDepth 100000 in
theorem t_M_compare_89 (C : gC E base p s m args meth c b_M_compare R_M 9) (hr : meth.sig.returnType = none) {z : Unit × gV} (v0 : Nat) (v7 : Int32) (v8 : Int32) (s0 : Int32) (s1 : Int32) (s2 : Nat) (V : gV) (h : D_M_compare_89 L  v0 v7 v8 s0 s1 s2 V = some z) : vW E base base 9 p l e rm_M_compare s m args below meth c 0 0 (g_MQ E base base below args s 0 0 L z.2 none) L V 89 [(0, tR (some v0)), (7, tI v7), (8, tI v8)] [tI s0, tI s1, tR (some s2)] := by
  unfold D_M_compare_89 at h
  refine r_iconst C (0 : Int32) d_M_compare_89 (by decide) ?_
  exact t_M_compare_90 C hr  v0 v7 v8 (0 : Int32) s0 s1 s2 V h
set_option maxHeartbeats 4000000 in
set_option maxRecDepth 100000 in
theorem t_M_compare_60 (C : gC E base p s m args meth c b_M_compare R_M 9) (hr : meth.sig.returnType = none) {z : Unit × gV} (v0 : Nat) (v1 : Int32) (v3 : Int64) (v7 : Int32) (v8 : Int32) (s0 : Int32) (s1 : Int32) (s2 : Int32) (s3 : Nat) (V : gV) (h : D_M_compare_60 L  v0 v1 v3 v7 v8 s0 s1 s2 s3 V = some z) : vW E base base 9 p l e rm_M_compare s m args below meth c 0 0 (g_MQ E base base below args s 0 0 L z.2 none) L V 60 [(0, tR (some v0)), (1, tI v1), (3, tJ v3), (7, tI v7), (8, tI v8)] [tI s0, tI s1, tI s2, tR (some s3)] := by
  unfold D_M_compare_60 at h
  refine r_iadd C d_M_compare_60 ?_
  replace h := g_ob h; obtain ⟨V1, e_V1, h⟩ := h
  refine r_iast C ak_100 d_M_compare_61 e_V1 ?_
  refine r_aload_n (x := (some v0)) C d_M_compare_62 rfl rfl ?_
  replace h := g_ob h; obtain ⟨x2, e_x2, h⟩ := h
  refine r_getR C f_M_60 d_M_compare_63 e_x2 ?_
  refine r_iconst C (2 : Int32) d_M_compare_66 (by decide) ?_
  refine r_dup2 C d_M_compare_67 rfl rfl ?_
  replace h := g_ob h; obtain ⟨a3, rfl, h⟩ := h
  replace h := g_ob h; obtain ⟨x4, e_x4, h⟩ := h
  refine r_iald C ak_100 d_M_compare_68 e_x4 ?_
  refine r_iload (x := v8) C d_M_compare_69 rfl ?_
  refine r_if_ne C 89 d_M_compare_71 (by decide) (fun c9 => ?_) (fun c9 => ?_)
  · rw [if_neg c9] at h
    refine r_lv [0, 3, 4] rfl ?_
    exact t_M_compare_89 C hr  v0 v7 v8 x4 (2 : Int32) a3 V1 h
  · rw [if_pos c9] at h
    refine r_aload_n (x := (some v0)) C d_M_compare_74 rfl rfl ?_
    refine r_iload_n (x := v1) C d_M_compare_75 rfl rfl ?_
    refine r_iconst C (0 : Int32) d_M_compare_76 (by decide) ?_
    replace h := g_ob h; obtain ⟨n8, e_n8, h⟩ := h
    replace h := g_o2 h; obtain ⟨r5, V6, e_r5, h⟩ := h
    refine r_callV (As := [tI v1, tI (0 : Int32)]) C k_M_101 w_278 w_279 w_276 ⟨_, _, rfl⟩ (c_M_partOf l E base base v0 v1 (0 : Int32) L V1 e_r5) d_M_compare_77 e_n8 rfl ⟨Nat.le_of_ble_eq_true rfl, Nat.le_of_ble_eq_true rfl⟩ (Nat.le_of_ble_eq_true rfl) (Nat.le_of_ble_eq_true rfl) (Nat.le_of_ble_eq_true rfl) rfl ?_
    refine r_lload_n (x := v3) C d_M_compare_80 rfl rfl ?_
    refine r_lcmp C d_M_compare_81 ?_
    refine r_if_ne C 89 d_M_compare_82 (by decide) (fun c7 => ?_) (fun c7 => ?_)
    · rw [if_neg c7] at h
      refine r_lv [0, 3, 4] rfl ?_
      exact t_M_compare_89 C hr  v0 v7 v8 x4 (2 : Int32) a3 V6 h
    · rw [if_pos c7] at h
      refine r_iconst C (1 : Int32) d_M_compare_85 (by decide) ?_
      refine r_goto C 90 d_M_compare_86 (by decide) ?_
      refine r_lv [0, 3, 4] rfl ?_
      exact t_M_compare_90 C hr  v0 v7 v8 (1 : Int32) x4 (2 : Int32) a3 V6 h
set_option maxHeartbeats 4000000 in
set_option maxRecDepth 100000 in
theorem t_M_compare_41 (C : gC E base p s m args meth c b_M_compare R_M 9) (hr : meth.sig.returnType = none) {z : Unit × gV} (v0 : Nat) (v1 : Int32) (v3 : Int64) (v7 : Int32) (s0 : Int32) (V : gV) (h : D_M_compare_41 L  v0 v1 v3 v7 s0 V = some z) : vW E base base 9 p l e rm_M_compare s m args below meth c 0 0 (g_MQ E base base below args s 0 0 L z.2 none) L V 41 [(0, tR (some v0)), (1, tI v1), (3, tJ v3), (7, tI v7)] [tI s0] := by
  unfold D_M_compare_41 at h
  refine r_istore (lv' := [(8, tI s0), (0, tR (some v0)), (1, tI v1), (3, tJ v3), (7, tI v7)]) C d_M_compare_41 (by decide) rfl ?_
  refine r_aload_n (x := (some v0)) C d_M_compare_43 rfl rfl ?_
  replace h := g_ob h; obtain ⟨x1, e_x1, h⟩ := h
  refine r_getR C f_M_60 d_M_compare_44 e_x1 ?_
  refine r_iconst C (1 : Int32) d_M_compare_47 (by decide) ?_
  refine r_dup2 C d_M_compare_48 rfl rfl ?_
  replace h := g_ob h; obtain ⟨a2, rfl, h⟩ := h
  replace h := g_ob h; obtain ⟨x3, e_x3, h⟩ := h
  refine r_iald C ak_100 d_M_compare_49 e_x3 ?_
  refine r_iload (x := s0) C d_M_compare_50 rfl ?_
  refine r_if_eq C 59 d_M_compare_52 (by decide) (fun c4 => ?_) (fun c4 => ?_)
  · rw [if_pos c4] at h
    refine r_iconst C (0 : Int32) d_M_compare_59 (by decide) ?_
    refine r_lv [1, 2, 3, 4, 0] rfl ?_
    exact t_M_compare_60 C hr  v0 v1 v3 v7 s0 (0 : Int32) x3 (1 : Int32) a2 V h
  · rw [if_neg c4] at h
    refine r_iconst C (1 : Int32) d_M_compare_55 (by decide) ?_
    refine r_goto C 60 d_M_compare_56 (by decide) ?_
    refine r_lv [1, 2, 3, 4, 0] rfl ?_
    exact t_M_compare_60 C hr  v0 v1 v3 v7 s0 (1 : Int32) x3 (1 : Int32) a2 V h
set_option maxHeartbeats 4000000 in
set_option maxRecDepth 100000 in
theorem t_M_compare_40 (C : gC E base p s m args meth c b_M_compare R_M 9) (hr : meth.sig.returnType = none) {z : Unit × gV} (v0 : Nat) (v1 : Int32) (v3 : Int64) (v7 : Int32) (V : gV) (h : D_M_compare_40 L  v0 v1 v3 v7 V = some z) : vW E base base 9 p l e rm_M_compare s m args below meth c 0 0 (g_MQ E base base below args s 0 0 L z.2 none) L V 40 [(0, tR (some v0)), (1, tI v1), (3, tJ v3), (7, tI v7)] [] := by
  unfold D_M_compare_40 at h
  refine r_iconst C (0 : Int32) d_M_compare_40 (by decide) ?_
  exact t_M_compare_41 C hr  v0 v1 v3 v7 (0 : Int32) V h
set_option maxHeartbeats 4000000 in
set_option maxRecDepth 100000 in
theorem t_M_compare_0 (C : gC E base p s m args meth c b_M_compare R_M 9) (hr : meth.sig.returnType = none) {z : Unit × gV} (h0 : Nat) (p1 : Int32) (p2 : Int32) (p3 : Int64) (p5 : Int64) (p7 : Int32) (V : gV) (h : D_M_compare h0 p1 p2 p3 p5 p7 L V = some z) : vW E base base 9 p l e rm_M_compare s m args below meth c 0 0 (g_MQ E base base below args s 0 0 L z.2 none) L V 0 [(0, tR (some h0)), (1, tI p1), (2, tI p2), (3, tJ p3), (5, tJ p5), (7, tI p7)] [] := by
  unfold D_M_compare at h
  refine r_iload_n (x := p2) C d_M_compare_0 rfl rfl ?_
  refine r_if_eq C 12 d_M_compare_1 (by decide) (fun c13 => ?_) (fun c13 => ?_)
  · rw [if_pos c13] at h
    cases h
    exact r_vret C hr d_M_compare_12
  · rw [if_neg c13] at h
    refine r_aload_n (x := (some h0)) C d_M_compare_4 rfl rfl ?_
    refine r_iload_n (x := p1) C d_M_compare_5 rfl rfl ?_
    replace h := g_ob h; obtain ⟨n12, e_n12, h⟩ := h
    replace h := g_o2 h; obtain ⟨r1, V2, e_r1, h⟩ := h
    refine r_callV (As := [tI p1]) C k_M_130 w_310 w_311 w_308 ⟨_, _, rfl⟩ (c_M_hasOutput l E base base h0 p1 L V e_r1) d_M_compare_6 e_n12 rfl ⟨Nat.le_of_ble_eq_true rfl, Nat.le_of_ble_eq_true rfl⟩ (Nat.le_of_ble_eq_true rfl) (Nat.le_of_ble_eq_true rfl) (Nat.le_of_ble_eq_true rfl) rfl ?_
    refine r_if_ne C 13 d_M_compare_9 (by decide) (fun c11 => ?_) (fun c11 => ?_)
    · rw [if_neg c11] at h
      refine r_aload_n (x := (some h0)) C d_M_compare_13 rfl rfl ?_
      refine r_iload_n (x := p1) C d_M_compare_14 rfl rfl ?_
      refine r_iconst C (1 : Int32) d_M_compare_15 (by decide) ?_
      replace h := g_ob h; obtain ⟨n10, e_n10, h⟩ := h
      replace h := g_o2 h; obtain ⟨r3, V4, e_r3, h⟩ := h
      refine r_callV (As := [tI p1, tI (1 : Int32)]) C k_M_101 w_278 w_279 w_276 ⟨_, _, rfl⟩ (c_M_partOf l E base base h0 p1 (1 : Int32) L V2 e_r3) d_M_compare_16 e_n10 rfl ⟨Nat.le_of_ble_eq_true rfl, Nat.le_of_ble_eq_true rfl⟩ (Nat.le_of_ble_eq_true rfl) (Nat.le_of_ble_eq_true rfl) (Nat.le_of_ble_eq_true rfl) rfl ?_
      refine r_lload (x := p5) C d_M_compare_19 rfl ?_
      refine r_lcmp C d_M_compare_21 ?_
      refine r_if_ne C 40 d_M_compare_22 (by decide) (fun c9 => ?_) (fun c9 => ?_)
      · rw [if_neg c9] at h
        refine r_lv [0, 1, 3, 5] rfl ?_
        exact t_M_compare_40 C hr  h0 p1 p3 p7 V4 h
      · rw [if_pos c9] at h
        refine r_aload_n (x := (some h0)) C d_M_compare_25 rfl rfl ?_
        refine r_iload_n (x := p1) C d_M_compare_26 rfl rfl ?_
        refine r_iconst C (0 : Int32) d_M_compare_27 (by decide) ?_
        replace h := g_ob h; obtain ⟨n8, e_n8, h⟩ := h
        replace h := g_o2 h; obtain ⟨r5, V6, e_r5, h⟩ := h
        refine r_callV (As := [tI p1, tI (0 : Int32)]) C k_M_101 w_278 w_279 w_276 ⟨_, _, rfl⟩ (c_M_partOf l E base base h0 p1 (0 : Int32) L V4 e_r5) d_M_compare_28 e_n8 rfl ⟨Nat.le_of_ble_eq_true rfl, Nat.le_of_ble_eq_true rfl⟩ (Nat.le_of_ble_eq_true rfl) (Nat.le_of_ble_eq_true rfl) (Nat.le_of_ble_eq_true rfl) rfl ?_
        refine r_lload_n (x := p3) C d_M_compare_31 rfl rfl ?_
        refine r_lcmp C d_M_compare_32 ?_
        refine r_if_ne C 40 d_M_compare_33 (by decide) (fun c7 => ?_) (fun c7 => ?_)
        · rw [if_neg c7] at h
          refine r_lv [0, 1, 3, 5] rfl ?_
          exact t_M_compare_40 C hr  h0 p1 p3 p7 V6 h
        · rw [if_pos c7] at h
          refine r_iconst C (1 : Int32) d_M_compare_36 (by decide) ?_
          refine r_goto C 41 d_M_compare_37 (by decide) ?_
          refine r_lv [0, 1, 3, 5] rfl ?_
          exact t_M_compare_41 C hr  h0 p1 p3 p7 (1 : Int32) V6 h
    · rw [if_pos c11] at h
      cases h
      exact r_vret C hr d_M_compare_12
theorem c_M_compare (l : Launch) (E : gE) (base : Nat) (h0 : Nat) (p1 : Int32) (p2 : Int32) (p3 : Int64) (p5 : Int64) (p7 : Int32) (L : gL) (V : gV) {z : Unit × gV} (h : D_M_compare h0 p1 p2 p3 p5 p7 L V = some z) : g_Met l E base base y_M_compare b_M_compare 9 none rm_M_compare [tR (some h0), tI p1, tI p2, tJ p3, tJ p5, tI p7] L V none L z.2 :=
  r_enter R_M (by decide) rfl [tR (some h0), tI p1, tI p2, tJ p3, tJ p5, tI p7] [(0, tR (some h0)), (1, tI p1), (2, tI p2), (3, tJ p3), (5, tJ p5), (7, tI p7)] rfl (Nat.le_of_ble_eq_true rfl) (fun p e s m args below meth c C hr hnm => t_M_compare_0 C hr h0 p1 p2 p3 p5 p7 V h)
def rm_M_go : Room := { frames := 6, cells := 0, slots := 0, locals := 142 }
def D_M_go_147 (L : gL) (v0 : Nat) (v1 : Int32) (v2 : Int32) (v3 : Int64) (v5 : Int64) (v7 : Int32) (s0 : Int32) (s1 : Int32) (s2 : Int32) (s3 : Nat) (V : gV) : Option (Int32 × gV) :=
  Option.bind (g_wa L V 100 s3 s2 (tI (s1 + s0))) fun V1 =>
    (if v7 ≤ 0 then
    some ((0 : Int32), V1)
  else
    Option.bind ((L).2 4 v0) fun n4 =>
    g_b2 (D_M_compare v0 v1 v2 v3 v5 (0 : Int32) L V1) fun r2 V3 =>
    some ((0 : Int32), V3))
def D_M_go_125 (L : gL) (v0 : Nat) (v1 : Int32) (v2 : Int32) (v3 : Int64) (v5 : Int64) (v7 : Int32) (s0 : Int32) (s1 : Int32) (s2 : Option Nat) (V : gV) : Option (Int32 × gV) :=
  Option.bind s2 fun a1 =>
    Option.bind (g_wa L V 100 a1 s1 (tI s0)) fun V2 =>
    Option.bind (g_rR L V2 4 v0 19) fun x3 =>
    Option.bind x3 fun a4 =>
    Option.bind (g_aI L V2 100 a4 (0 : Int32)) fun x5 =>
    Option.bind (g_rR L V2 4 v0 22) fun x6 =>
    Option.bind x6 fun a7 =>
    Option.bind (g_aI L V2 102 a7 v1) fun x8 =>
    (if x8 = 0 then
    D_M_go_147 L  v0 v1 v2 v3 v5 v7 (0 : Int32) x5 (0 : Int32) a4 V2
  else
    D_M_go_147 L  v0 v1 v2 v3 v5 v7 (1 : Int32) x5 (0 : Int32) a4 V2)
def D_M_go_232 (L : gL) (v0 : Nat) (v1 : Int32) (v2 : Int32) (v3 : Int64) (v5 : Int64) (s0 : Int32) (s1 : Int32) (s2 : Option Nat) (V : gV) : Option (Int32 × gV) :=
  Option.bind s2 fun a1 =>
    Option.bind (g_wa L V 100 a1 s1 (tI s0)) fun V2 =>
    Option.bind ((L).2 4 v0) fun n5 =>
    g_b2 (D_M_compare v0 v1 v2 v3 v5 (1 : Int32) L V2) fun r3 V4 =>
    some ((1 : Int32), V4)
def D_M_go_82 (L : gL) (v0 : Nat) (v1 : Int32) (v2 : Int32) (v3 : Int64) (v5 : Int64) (s0 : Int32) (V : gV) : Option (Int32 × gV) :=
  (if s0 = (-1 : Int32) then
    Option.bind (g_rR L V 4 v0 18) fun x1 =>
    Option.bind ((L).2 4 v0) fun n26 =>
    g_b2 (D_M_causeOf v0 v1 L V) fun r2 V3 =>
    Option.bind x1 fun a4 =>
    Option.bind (g_wa L V3 100 a4 v1 (tI r2)) fun V5 =>
    Option.bind (g_rR L V5 4 v0 20) fun x6 =>
    Option.bind (g_rR L V5 4 v0 18) fun x7 =>
    Option.bind x7 fun a8 =>
    Option.bind (g_aI L V5 100 a8 v1) fun x9 =>
    Option.bind x6 fun a10 =>
    Option.bind (g_aI L V5 100 a10 x9) fun x11 =>
    Option.bind (g_wa L V5 100 a10 x9 (tI (x11 + (1 : Int32)))) fun V12 =>
    Option.bind (g_rI L V12 4 v0 24) fun x13 =>
    Option.bind (g_wr L V12 4 v0 24 (tI (x13 + (1 : Int32)))) fun V14 =>
    Option.bind (g_rR L V14 4 v0 7) fun x15 =>
    Option.bind x15 fun a16 =>
    Option.bind (g_wa L V14 102 a16 v1 (tI (0 : Int32))) fun V17 =>
    Option.bind ((L).2 4 v0) fun n25 =>
    g_b2 (D_M_work v0 v1 L V17) fun r18 V19 =>
    Option.bind (g_rR L V19 4 v0 17) fun x20 =>
    Option.bind ((L).2 4 v0) fun n24 =>
    g_b2 (D_M_hasOutput v0 v1 L V19) fun r21 V22 =>
    (if r21 = 0 then
    D_M_go_232 L  v0 v1 v2 v3 v5 (3 : Int32) v1 x20 V22
  else
    D_M_go_232 L  v0 v1 v2 v3 v5 (2 : Int32) v1 x20 V22)
  else
    Option.bind ((L).2 4 v0) fun n35 =>
    g_b2 (D_M_bring v0 v1 s0 L V) fun r27 V28 =>
    Option.bind (g_rR L V28 4 v0 17) fun x29 =>
    Option.bind ((L).2 4 v0) fun n34 =>
    g_b2 (D_M_hasOutput v0 v1 L V28) fun r30 V31 =>
    (if r30 = 0 then
    D_M_go_125 L  v0 v1 v2 v3 v5 s0 (4 : Int32) v1 x29 V31
  else
    (if s0 = 0 then
    D_M_go_125 L  v0 v1 v2 v3 v5 s0 (1 : Int32) v1 x29 V31
  else
    D_M_go_125 L  v0 v1 v2 v3 v5 s0 (6 : Int32) v1 x29 V31)))
def D_M_go_62 (L : gL) (v0 : Nat) (v1 : Int32) (v2 : Int32) (v3 : Int64) (s0 : Int64) (V : gV) : Option (Int32 × gV) :=
  Option.bind (g_rR L V 4 v0 7) fun x1 =>
    Option.bind x1 fun a2 =>
    Option.bind (g_aI L V 102 a2 v1) fun x3 =>
    (if x3 = 0 then
    Option.bind ((L).2 4 v0) fun n6 =>
    g_b2 (D_M_matching v0 v1 L V) fun r4 V5 =>
    D_M_go_82 L  v0 v1 v2 v3 s0 r4 V5
  else
    D_M_go_82 L  v0 v1 v2 v3 s0 (-1 : Int32) V)
def D_M_go_47 (L : gL) (v0 : Nat) (v1 : Int32) (v2 : Int32) (s0 : Int64) (V : gV) : Option (Int32 × gV) :=
  (if v2 = 0 then
    D_M_go_62 L  v0 v1 v2 s0 (0 : Int64) V
  else
    Option.bind ((L).2 4 v0) fun n3 =>
    g_b2 (D_M_partOf v0 v1 (1 : Int32) L V) fun r1 V2 =>
    D_M_go_62 L  v0 v1 v2 s0 r1 V2)
def D_M_go (h0 : Nat) (p1 : Int32) (L : gL) (V : gV) : Option (Int32 × gV) :=
  Option.bind ((L).2 4 h0) fun n18 =>
    g_b2 (D_M_isBlocked h0 p1 L V) fun r1 V2 =>
    (if r1 = 0 then
    Option.bind ((L).2 4 h0) fun n9 =>
    g_b2 (D_M_hasOutput h0 p1 L V2) fun r3 V4 =>
    (if r3 = 0 then
    D_M_go_47 L  h0 p1 r3 (0 : Int64) V4
  else
    Option.bind ((L).2 4 h0) fun n7 =>
    g_b2 (D_M_partOf h0 p1 (0 : Int32) L V4) fun r5 V6 =>
    D_M_go_47 L  h0 p1 r3 r5 V6)
  else
    Option.bind (g_rR L V2 4 h0 17) fun x10 =>
    Option.bind x10 fun a11 =>
    Option.bind (g_wa L V2 100 a11 p1 (tI (5 : Int32))) fun V12 =>
    Option.bind (g_rR L V12 4 h0 19) fun x13 =>
    Option.bind x13 fun a14 =>
    Option.bind (g_aI L V12 100 a14 (3 : Int32)) fun x15 =>
    Option.bind (g_wa L V12 100 a14 (3 : Int32) (tI (x15 + (1 : Int32)))) fun V16 =>
    some ((0 : Int32), V16))
set_option maxHeartbeats 4000000 in
set_option maxRecDepth 100000 in
theorem t_M_go_147 (C : gC E base p s m args meth c b_M_go R_M 8) (hr : meth.sig.returnType = (some .int)) {z : Int32 × gV} (v0 : Nat) (v1 : Int32) (v2 : Int32) (v3 : Int64) (v5 : Int64) (v7 : Int32) (s0 : Int32) (s1 : Int32) (s2 : Int32) (s3 : Nat) (V : gV) (h : D_M_go_147 L  v0 v1 v2 v3 v5 v7 s0 s1 s2 s3 V = some z) : vW E base base 8 p l e rm_M_go s m args below meth c 0 0 (g_MQ E base base below args s 0 0 L z.2 (some (tI z.1))) L V 147 [(0, tR (some v0)), (1, tI v1), (2, tI v2), (3, tJ v3), (5, tJ v5), (7, tI v7)] [tI s0, tI s1, tI s2, tR (some s3)] := by
  unfold D_M_go_147 at h
  refine r_iadd C d_M_go_147 ?_
  replace h := g_ob h; obtain ⟨V1, e_V1, h⟩ := h
  refine r_iast C ak_100 d_M_go_148 e_V1 ?_
  refine r_iload (x := v7) C d_M_go_149 rfl ?_
  refine r_if_le C 164 d_M_go_151 (by decide) (fun c5 => ?_) (fun c5 => ?_)
  · rw [if_pos c5] at h
    refine r_iconst C (0 : Int32) d_M_go_164 (by decide) ?_
    cases h
    exact r_iret C hr d_M_go_165
  · rw [if_neg c5] at h
    refine r_aload_n (x := (some v0)) C d_M_go_154 rfl rfl ?_
    refine r_iload_n (x := v1) C d_M_go_155 rfl rfl ?_
    refine r_iload_n (x := v2) C d_M_go_156 rfl rfl ?_
    refine r_lload_n (x := v3) C d_M_go_157 rfl rfl ?_
    refine r_lload (x := v5) C d_M_go_158 rfl ?_
    refine r_iconst C (0 : Int32) d_M_go_160 (by decide) ?_
    replace h := g_ob h; obtain ⟨n4, e_n4, h⟩ := h
    replace h := g_o2 h; obtain ⟨r2, V3, e_r2, h⟩ := h
    refine r_callV (As := [tI v1, tI v2, tJ v3, tJ v5, tI (0 : Int32)]) C k_M_142 w_332 w_333 w_330 ⟨_, _, rfl⟩ (c_M_compare l E base v0 v1 v2 v3 v5 (0 : Int32) L V1 e_r2) d_M_go_161 e_n4 rfl ⟨Nat.le_of_ble_eq_true rfl, Nat.le_of_ble_eq_true rfl⟩ (Nat.le_of_ble_eq_true rfl) (Nat.le_of_ble_eq_true rfl) (Nat.le_of_ble_eq_true rfl) rfl ?_
    refine r_iconst C (0 : Int32) d_M_go_164 (by decide) ?_
    cases h
    exact r_iret C hr d_M_go_165
set_option maxHeartbeats 4000000 in
set_option maxRecDepth 100000 in
theorem t_M_go_125 (C : gC E base p s m args meth c b_M_go R_M 8) (hr : meth.sig.returnType = (some .int)) {z : Int32 × gV} (v0 : Nat) (v1 : Int32) (v2 : Int32) (v3 : Int64) (v5 : Int64) (v7 : Int32) (s0 : Int32) (s1 : Int32) (s2 : Option Nat) (V : gV) (h : D_M_go_125 L  v0 v1 v2 v3 v5 v7 s0 s1 s2 V = some z) : vW E base base 8 p l e rm_M_go s m args below meth c 0 0 (g_MQ E base base below args s 0 0 L z.2 (some (tI z.1))) L V 125 [(0, tR (some v0)), (1, tI v1), (2, tI v2), (3, tJ v3), (5, tJ v5), (7, tI v7)] [tI s0, tI s1, tR s2] := by
  unfold D_M_go_125 at h
  replace h := g_ob h; obtain ⟨a1, rfl, h⟩ := h
  replace h := g_ob h; obtain ⟨V2, e_V2, h⟩ := h
  refine r_iast C ak_100 d_M_go_125 e_V2 ?_
  refine r_aload_n (x := (some v0)) C d_M_go_126 rfl rfl ?_
  replace h := g_ob h; obtain ⟨x3, e_x3, h⟩ := h
  refine r_getR C f_M_60 d_M_go_127 e_x3 ?_
  refine r_iconst C (0 : Int32) d_M_go_130 (by decide) ?_
  refine r_dup2 C d_M_go_131 rfl rfl ?_
  replace h := g_ob h; obtain ⟨a4, rfl, h⟩ := h
  replace h := g_ob h; obtain ⟨x5, e_x5, h⟩ := h
  refine r_iald C ak_100 d_M_go_132 e_x5 ?_
  refine r_aload_n (x := (some v0)) C d_M_go_133 rfl rfl ?_
  replace h := g_ob h; obtain ⟨x6, e_x6, h⟩ := h
  refine r_getR C f_M_69 d_M_go_134 e_x6 ?_
  refine r_iload_n (x := v1) C d_M_go_137 rfl rfl ?_
  replace h := g_ob h; obtain ⟨a7, rfl, h⟩ := h
  replace h := g_ob h; obtain ⟨x8, e_x8, h⟩ := h
  refine r_zald C ak_102 d_M_go_138 e_x8 ?_
  refine r_if_eq C 146 d_M_go_139 (by decide) (fun c9 => ?_) (fun c9 => ?_)
  · rw [if_pos c9] at h
    refine r_iconst C (0 : Int32) d_M_go_146 (by decide) ?_
    exact t_M_go_147 C hr  v0 v1 v2 v3 v5 v7 (0 : Int32) x5 (0 : Int32) a4 V2 h
  · rw [if_neg c9] at h
    refine r_iconst C (1 : Int32) d_M_go_142 (by decide) ?_
    refine r_goto C 147 d_M_go_143 (by decide) ?_
    exact t_M_go_147 C hr  v0 v1 v2 v3 v5 v7 (1 : Int32) x5 (0 : Int32) a4 V2 h
set_option maxHeartbeats 4000000 in
set_option maxRecDepth 100000 in
theorem t_M_go_232 (C : gC E base p s m args meth c b_M_go R_M 8) (hr : meth.sig.returnType = (some .int)) {z : Int32 × gV} (v0 : Nat) (v1 : Int32) (v2 : Int32) (v3 : Int64) (v5 : Int64) (s0 : Int32) (s1 : Int32) (s2 : Option Nat) (V : gV) (h : D_M_go_232 L  v0 v1 v2 v3 v5 s0 s1 s2 V = some z) : vW E base base 8 p l e rm_M_go s m args below meth c 0 0 (g_MQ E base base below args s 0 0 L z.2 (some (tI z.1))) L V 232 [(0, tR (some v0)), (1, tI v1), (2, tI v2), (3, tJ v3), (5, tJ v5)] [tI s0, tI s1, tR s2] := by
  unfold D_M_go_232 at h
  replace h := g_ob h; obtain ⟨a1, rfl, h⟩ := h
  replace h := g_ob h; obtain ⟨V2, e_V2, h⟩ := h
  refine r_iast C ak_100 d_M_go_232 e_V2 ?_
  refine r_aload_n (x := (some v0)) C d_M_go_233 rfl rfl ?_
  refine r_iload_n (x := v1) C d_M_go_234 rfl rfl ?_
  refine r_iload_n (x := v2) C d_M_go_235 rfl rfl ?_
  refine r_lload_n (x := v3) C d_M_go_236 rfl rfl ?_
  refine r_lload (x := v5) C d_M_go_237 rfl ?_
  refine r_iconst C (1 : Int32) d_M_go_239 (by decide) ?_
  replace h := g_ob h; obtain ⟨n5, e_n5, h⟩ := h
  replace h := g_o2 h; obtain ⟨r3, V4, e_r3, h⟩ := h
  refine r_callV (As := [tI v1, tI v2, tJ v3, tJ v5, tI (1 : Int32)]) C k_M_142 w_332 w_333 w_330 ⟨_, _, rfl⟩ (c_M_compare l E base v0 v1 v2 v3 v5 (1 : Int32) L V2 e_r3) d_M_go_240 e_n5 rfl ⟨Nat.le_of_ble_eq_true rfl, Nat.le_of_ble_eq_true rfl⟩ (Nat.le_of_ble_eq_true rfl) (Nat.le_of_ble_eq_true rfl) (Nat.le_of_ble_eq_true rfl) rfl ?_
  refine r_iconst C (1 : Int32) d_M_go_243 (by decide) ?_
  cases h
  exact r_iret C hr d_M_go_244
set_option maxHeartbeats 4000000 in
set_option maxRecDepth 100000 in
theorem t_M_go_82 (C : gC E base p s m args meth c b_M_go R_M 8) (hr : meth.sig.returnType = (some .int)) {z : Int32 × gV} (v0 : Nat) (v1 : Int32) (v2 : Int32) (v3 : Int64) (v5 : Int64) (s0 : Int32) (V : gV) (h : D_M_go_82 L  v0 v1 v2 v3 v5 s0 V = some z) : vW E base base 8 p l e rm_M_go s m args below meth c 0 0 (g_MQ E base base below args s 0 0 L z.2 (some (tI z.1))) L V 82 [(0, tR (some v0)), (1, tI v1), (2, tI v2), (3, tJ v3), (5, tJ v5)] [tI s0] := by
  unfold D_M_go_82 at h
  refine r_istore (lv' := [(7, tI s0), (0, tR (some v0)), (1, tI v1), (2, tI v2), (3, tJ v3), (5, tJ v5)]) C d_M_go_82 (by decide) rfl ?_
  refine r_iload (x := s0) C d_M_go_84 rfl ?_
  refine r_iconst C (-1 : Int32) d_M_go_86 (by decide) ?_
  refine r_icmp_eq C 166 d_M_go_87 (by decide) (fun c36 => ?_) (fun c36 => ?_)
  · rw [if_pos c36] at h
    refine r_aload_n (x := (some v0)) C d_M_go_166 rfl rfl ?_
    replace h := g_ob h; obtain ⟨x1, e_x1, h⟩ := h
    refine r_getR C f_M_57 d_M_go_167 e_x1 ?_
    refine r_iload_n (x := v1) C d_M_go_170 rfl rfl ?_
    refine r_aload_n (x := (some v0)) C d_M_go_171 rfl rfl ?_
    refine r_iload_n (x := v1) C d_M_go_172 rfl rfl ?_
    replace h := g_ob h; obtain ⟨n26, e_n26, h⟩ := h
    replace h := g_o2 h; obtain ⟨r2, V3, e_r2, h⟩ := h
    refine r_callV (As := [tI v1]) C k_M_146 w_324 w_325 w_317 ⟨_, _, rfl⟩ (c_M_causeOf l E base base v0 v1 L V e_r2) d_M_go_173 e_n26 rfl ⟨Nat.le_of_ble_eq_true rfl, Nat.le_of_ble_eq_true rfl⟩ (Nat.le_of_ble_eq_true rfl) (Nat.le_of_ble_eq_true rfl) (Nat.le_of_ble_eq_true rfl) rfl ?_
    replace h := g_ob h; obtain ⟨a4, rfl, h⟩ := h
    replace h := g_ob h; obtain ⟨V5, e_V5, h⟩ := h
    refine r_iast C ak_100 d_M_go_176 e_V5 ?_
    refine r_aload_n (x := (some v0)) C d_M_go_177 rfl rfl ?_
    replace h := g_ob h; obtain ⟨x6, e_x6, h⟩ := h
    refine r_getR C f_M_63 d_M_go_178 e_x6 ?_
    refine r_aload_n (x := (some v0)) C d_M_go_181 rfl rfl ?_
    replace h := g_ob h; obtain ⟨x7, e_x7, h⟩ := h
    refine r_getR C f_M_57 d_M_go_182 e_x7 ?_
    refine r_iload_n (x := v1) C d_M_go_185 rfl rfl ?_
    replace h := g_ob h; obtain ⟨a8, rfl, h⟩ := h
    replace h := g_ob h; obtain ⟨x9, e_x9, h⟩ := h
    refine r_iald C ak_100 d_M_go_186 e_x9 ?_
    refine r_dup2 C d_M_go_187 rfl rfl ?_
    replace h := g_ob h; obtain ⟨a10, rfl, h⟩ := h
    replace h := g_ob h; obtain ⟨x11, e_x11, h⟩ := h
    refine r_iald C ak_100 d_M_go_188 e_x11 ?_
    refine r_iconst C (1 : Int32) d_M_go_189 (by decide) ?_
    refine r_iadd C d_M_go_190 ?_
    replace h := g_ob h; obtain ⟨V12, e_V12, h⟩ := h
    refine r_iast C ak_100 d_M_go_191 e_V12 ?_
    refine r_aload_n (x := (some v0)) C d_M_go_192 rfl rfl ?_
    refine r_dup C d_M_go_193 rfl ?_
    replace h := g_ob h; obtain ⟨x13, e_x13, h⟩ := h
    refine r_getI C f_M_149 d_M_go_194 e_x13 ?_
    refine r_iconst C (1 : Int32) d_M_go_197 (by decide) ?_
    refine r_iadd C d_M_go_198 ?_
    replace h := g_ob h; obtain ⟨V14, e_V14, h⟩ := h
    refine r_put C f_M_149 d_M_go_199 e_V14 (g_nI (x13 + (1 : Int32))).1 (g_nI (x13 + (1 : Int32))).2 ?_
    refine r_aload_n (x := (some v0)) C d_M_go_202 rfl rfl ?_
    replace h := g_ob h; obtain ⟨x15, e_x15, h⟩ := h
    refine r_getR C f_M_23 d_M_go_203 e_x15 ?_
    refine r_iload_n (x := v1) C d_M_go_206 rfl rfl ?_
    refine r_iconst C (0 : Int32) d_M_go_207 (by decide) ?_
    replace h := g_ob h; obtain ⟨a16, rfl, h⟩ := h
    replace h := g_ob h; obtain ⟨V17, e_V17, h⟩ := h
    refine r_zast C ak_102 d_M_go_208 (Or.inl rfl) e_V17 ?_
    refine r_aload_n (x := (some v0)) C d_M_go_209 rfl rfl ?_
    refine r_iload_n (x := v1) C d_M_go_210 rfl rfl ?_
    replace h := g_ob h; obtain ⟨n25, e_n25, h⟩ := h
    replace h := g_o2 h; obtain ⟨r18, V19, e_r18, h⟩ := h
    refine r_callV (As := [tI v1]) C k_M_152 w_322 w_323 w_320 ⟨_, _, rfl⟩ (c_M_work l E base v0 v1 L V17 e_r18) d_M_go_211 e_n25 rfl ⟨Nat.le_of_ble_eq_true rfl, Nat.le_of_ble_eq_true rfl⟩ (Nat.le_of_ble_eq_true rfl) (Nat.le_of_ble_eq_true rfl) (Nat.le_of_ble_eq_true rfl) rfl ?_
    refine r_aload_n (x := (some v0)) C d_M_go_214 rfl rfl ?_
    replace h := g_ob h; obtain ⟨x20, e_x20, h⟩ := h
    refine r_getR C f_M_54 d_M_go_215 e_x20 ?_
    refine r_iload_n (x := v1) C d_M_go_218 rfl rfl ?_
    refine r_aload_n (x := (some v0)) C d_M_go_219 rfl rfl ?_
    refine r_iload_n (x := v1) C d_M_go_220 rfl rfl ?_
    replace h := g_ob h; obtain ⟨n24, e_n24, h⟩ := h
    replace h := g_o2 h; obtain ⟨r21, V22, e_r21, h⟩ := h
    refine r_callV (As := [tI v1]) C k_M_130 w_310 w_311 w_308 ⟨_, _, rfl⟩ (c_M_hasOutput l E base base v0 v1 L V19 e_r21) d_M_go_221 e_n24 rfl ⟨Nat.le_of_ble_eq_true rfl, Nat.le_of_ble_eq_true rfl⟩ (Nat.le_of_ble_eq_true rfl) (Nat.le_of_ble_eq_true rfl) (Nat.le_of_ble_eq_true rfl) rfl ?_
    refine r_if_eq C 231 d_M_go_224 (by decide) (fun c23 => ?_) (fun c23 => ?_)
    · rw [if_pos c23] at h
      refine r_iconst C (3 : Int32) d_M_go_231 (by decide) ?_
      refine r_lv [1, 2, 3, 4, 5] rfl ?_
      exact t_M_go_232 C hr  v0 v1 v2 v3 v5 (3 : Int32) v1 x20 V22 h
    · rw [if_neg c23] at h
      refine r_iconst C (2 : Int32) d_M_go_227 (by decide) ?_
      refine r_goto C 232 d_M_go_228 (by decide) ?_
      refine r_lv [1, 2, 3, 4, 5] rfl ?_
      exact t_M_go_232 C hr  v0 v1 v2 v3 v5 (2 : Int32) v1 x20 V22 h
  · rw [if_neg c36] at h
    refine r_aload_n (x := (some v0)) C d_M_go_90 rfl rfl ?_
    refine r_iload_n (x := v1) C d_M_go_91 rfl rfl ?_
    refine r_iload (x := s0) C d_M_go_92 rfl ?_
    replace h := g_ob h; obtain ⟨n35, e_n35, h⟩ := h
    replace h := g_o2 h; obtain ⟨r27, V28, e_r27, h⟩ := h
    refine r_callV (As := [tI v1, tI s0]) C k_M_139 w_328 w_329 w_326 ⟨_, _, rfl⟩ (c_M_bring l E base v0 v1 s0 L V e_r27) d_M_go_94 e_n35 rfl ⟨Nat.le_of_ble_eq_true rfl, Nat.le_of_ble_eq_true rfl⟩ (Nat.le_of_ble_eq_true rfl) (Nat.le_of_ble_eq_true rfl) (Nat.le_of_ble_eq_true rfl) rfl ?_
    refine r_aload_n (x := (some v0)) C d_M_go_97 rfl rfl ?_
    replace h := g_ob h; obtain ⟨x29, e_x29, h⟩ := h
    refine r_getR C f_M_54 d_M_go_98 e_x29 ?_
    refine r_iload_n (x := v1) C d_M_go_101 rfl rfl ?_
    refine r_aload_n (x := (some v0)) C d_M_go_102 rfl rfl ?_
    refine r_iload_n (x := v1) C d_M_go_103 rfl rfl ?_
    replace h := g_ob h; obtain ⟨n34, e_n34, h⟩ := h
    replace h := g_o2 h; obtain ⟨r30, V31, e_r30, h⟩ := h
    refine r_callV (As := [tI v1]) C k_M_130 w_310 w_311 w_308 ⟨_, _, rfl⟩ (c_M_hasOutput l E base base v0 v1 L V28 e_r30) d_M_go_104 e_n34 rfl ⟨Nat.le_of_ble_eq_true rfl, Nat.le_of_ble_eq_true rfl⟩ (Nat.le_of_ble_eq_true rfl) (Nat.le_of_ble_eq_true rfl) (Nat.le_of_ble_eq_true rfl) rfl ?_
    refine r_if_ne C 114 d_M_go_107 (by decide) (fun c33 => ?_) (fun c33 => ?_)
    · rw [if_neg c33] at h
      refine r_iload (x := s0) C d_M_go_114 rfl ?_
      refine r_if_ne C 123 d_M_go_116 (by decide) (fun c32 => ?_) (fun c32 => ?_)
      · rw [if_neg c32] at h
        refine r_bipush C (6 : Int32) d_M_go_123 (by decide) ?_
        refine r_lv [1, 2, 3, 4, 5, 0] rfl ?_
        exact t_M_go_125 C hr  v0 v1 v2 v3 v5 s0 (6 : Int32) v1 x29 V31 h
      · rw [if_pos c32] at h
        refine r_iconst C (1 : Int32) d_M_go_119 (by decide) ?_
        refine r_goto C 125 d_M_go_120 (by decide) ?_
        refine r_lv [1, 2, 3, 4, 5, 0] rfl ?_
        exact t_M_go_125 C hr  v0 v1 v2 v3 v5 s0 (1 : Int32) v1 x29 V31 h
    · rw [if_pos c33] at h
      refine r_iconst C (4 : Int32) d_M_go_110 (by decide) ?_
      refine r_goto C 125 d_M_go_111 (by decide) ?_
      refine r_lv [1, 2, 3, 4, 5, 0] rfl ?_
      exact t_M_go_125 C hr  v0 v1 v2 v3 v5 s0 (4 : Int32) v1 x29 V31 h
set_option maxHeartbeats 4000000 in
set_option maxRecDepth 100000 in
theorem t_M_go_62 (C : gC E base p s m args meth c b_M_go R_M 8) (hr : meth.sig.returnType = (some .int)) {z : Int32 × gV} (v0 : Nat) (v1 : Int32) (v2 : Int32) (v3 : Int64) (s0 : Int64) (V : gV) (h : D_M_go_62 L  v0 v1 v2 v3 s0 V = some z) : vW E base base 8 p l e rm_M_go s m args below meth c 0 0 (g_MQ E base base below args s 0 0 L z.2 (some (tI z.1))) L V 62 [(0, tR (some v0)), (1, tI v1), (2, tI v2), (3, tJ v3)] [tJ s0] := by
  unfold D_M_go_62 at h
  refine r_lstore (lv' := [(5, tJ s0), (0, tR (some v0)), (1, tI v1), (2, tI v2), (3, tJ v3)]) C d_M_go_62 (by decide) rfl ?_
  refine r_aload_n (x := (some v0)) C d_M_go_64 rfl rfl ?_
  replace h := g_ob h; obtain ⟨x1, e_x1, h⟩ := h
  refine r_getR C f_M_23 d_M_go_65 e_x1 ?_
  refine r_iload_n (x := v1) C d_M_go_68 rfl rfl ?_
  replace h := g_ob h; obtain ⟨a2, rfl, h⟩ := h
  replace h := g_ob h; obtain ⟨x3, e_x3, h⟩ := h
  refine r_zald C ak_102 d_M_go_69 e_x3 ?_
  refine r_if_eq C 77 d_M_go_70 (by decide) (fun c7 => ?_) (fun c7 => ?_)
  · rw [if_pos c7] at h
    refine r_aload_n (x := (some v0)) C d_M_go_77 rfl rfl ?_
    refine r_iload_n (x := v1) C d_M_go_78 rfl rfl ?_
    replace h := g_ob h; obtain ⟨n6, e_n6, h⟩ := h
    replace h := g_o2 h; obtain ⟨r4, V5, e_r4, h⟩ := h
    refine r_callV (As := [tI v1]) C k_M_122 w_304 w_305 w_302 ⟨_, _, rfl⟩ (c_M_matching l E base base v0 v1 L V e_r4) d_M_go_79 e_n6 rfl ⟨Nat.le_of_ble_eq_true rfl, Nat.le_of_ble_eq_true rfl⟩ (Nat.le_of_ble_eq_true rfl) (Nat.le_of_ble_eq_true rfl) (Nat.le_of_ble_eq_true rfl) rfl ?_
    refine r_lv [1, 2, 3, 4, 0] rfl ?_
    exact t_M_go_82 C hr  v0 v1 v2 v3 s0 r4 V5 h
  · rw [if_neg c7] at h
    refine r_iconst C (-1 : Int32) d_M_go_73 (by decide) ?_
    refine r_goto C 82 d_M_go_74 (by decide) ?_
    refine r_lv [1, 2, 3, 4, 0] rfl ?_
    exact t_M_go_82 C hr  v0 v1 v2 v3 s0 (-1 : Int32) V h
set_option maxHeartbeats 4000000 in
set_option maxRecDepth 100000 in
theorem t_M_go_47 (C : gC E base p s m args meth c b_M_go R_M 8) (hr : meth.sig.returnType = (some .int)) {z : Int32 × gV} (v0 : Nat) (v1 : Int32) (v2 : Int32) (s0 : Int64) (V : gV) (h : D_M_go_47 L  v0 v1 v2 s0 V = some z) : vW E base base 8 p l e rm_M_go s m args below meth c 0 0 (g_MQ E base base below args s 0 0 L z.2 (some (tI z.1))) L V 47 [(0, tR (some v0)), (1, tI v1), (2, tI v2)] [tJ s0] := by
  unfold D_M_go_47 at h
  refine r_lstore_n (lv' := [(3, tJ s0), (0, tR (some v0)), (1, tI v1), (2, tI v2)]) C d_M_go_47 rfl (by decide) rfl ?_
  refine r_iload_n (x := v2) C d_M_go_48 rfl rfl ?_
  refine r_if_eq C 61 d_M_go_49 (by decide) (fun c4 => ?_) (fun c4 => ?_)
  · rw [if_pos c4] at h
    refine r_lconst C (0 : Int64) d_M_go_61 (by decide) ?_
    refine r_lv [1, 2, 3, 0] rfl ?_
    exact t_M_go_62 C hr  v0 v1 v2 s0 (0 : Int64) V h
  · rw [if_neg c4] at h
    refine r_aload_n (x := (some v0)) C d_M_go_52 rfl rfl ?_
    refine r_iload_n (x := v1) C d_M_go_53 rfl rfl ?_
    refine r_iconst C (1 : Int32) d_M_go_54 (by decide) ?_
    replace h := g_ob h; obtain ⟨n3, e_n3, h⟩ := h
    replace h := g_o2 h; obtain ⟨r1, V2, e_r1, h⟩ := h
    refine r_callV (As := [tI v1, tI (1 : Int32)]) C k_M_101 w_278 w_279 w_276 ⟨_, _, rfl⟩ (c_M_partOf l E base base v0 v1 (1 : Int32) L V e_r1) d_M_go_55 e_n3 rfl ⟨Nat.le_of_ble_eq_true rfl, Nat.le_of_ble_eq_true rfl⟩ (Nat.le_of_ble_eq_true rfl) (Nat.le_of_ble_eq_true rfl) (Nat.le_of_ble_eq_true rfl) rfl ?_
    refine r_goto C 62 d_M_go_58 (by decide) ?_
    refine r_lv [1, 2, 3, 0] rfl ?_
    exact t_M_go_62 C hr  v0 v1 v2 s0 r1 V2 h
set_option maxHeartbeats 4000000 in
set_option maxRecDepth 100000 in
theorem t_M_go_0 (C : gC E base p s m args meth c b_M_go R_M 8) (hr : meth.sig.returnType = (some .int)) {z : Int32 × gV} (h0 : Nat) (p1 : Int32) (V : gV) (h : D_M_go h0 p1 L V = some z) : vW E base base 8 p l e rm_M_go s m args below meth c 0 0 (g_MQ E base base below args s 0 0 L z.2 (some (tI z.1))) L V 0 [(0, tR (some h0)), (1, tI p1)] [] := by
  unfold D_M_go at h
  refine r_aload_n (x := (some h0)) C d_M_go_0 rfl rfl ?_
  refine r_iload_n (x := p1) C d_M_go_1 rfl rfl ?_
  replace h := g_ob h; obtain ⟨n18, e_n18, h⟩ := h
  replace h := g_o2 h; obtain ⟨r1, V2, e_r1, h⟩ := h
  refine r_callV (As := [tI p1]) C k_M_136 w_315 w_316 w_313 ⟨_, _, rfl⟩ (c_M_isBlocked l E base base h0 p1 L V e_r1) d_M_go_2 e_n18 rfl ⟨Nat.le_of_ble_eq_true rfl, Nat.le_of_ble_eq_true rfl⟩ (Nat.le_of_ble_eq_true rfl) (Nat.le_of_ble_eq_true rfl) (Nat.le_of_ble_eq_true rfl) rfl ?_
  refine r_if_eq C 27 d_M_go_5 (by decide) (fun c17 => ?_) (fun c17 => ?_)
  · rw [if_pos c17] at h
    refine r_aload_n (x := (some h0)) C d_M_go_27 rfl rfl ?_
    refine r_iload_n (x := p1) C d_M_go_28 rfl rfl ?_
    replace h := g_ob h; obtain ⟨n9, e_n9, h⟩ := h
    replace h := g_o2 h; obtain ⟨r3, V4, e_r3, h⟩ := h
    refine r_callV (As := [tI p1]) C k_M_130 w_310 w_311 w_308 ⟨_, _, rfl⟩ (c_M_hasOutput l E base base h0 p1 L V2 e_r3) d_M_go_29 e_n9 rfl ⟨Nat.le_of_ble_eq_true rfl, Nat.le_of_ble_eq_true rfl⟩ (Nat.le_of_ble_eq_true rfl) (Nat.le_of_ble_eq_true rfl) (Nat.le_of_ble_eq_true rfl) rfl ?_
    refine r_istore_n (lv' := [(2, tI r3), (0, tR (some h0)), (1, tI p1)]) C d_M_go_32 rfl (by decide) rfl ?_
    refine r_iload_n (x := r3) C d_M_go_33 rfl rfl ?_
    refine r_if_eq C 46 d_M_go_34 (by decide) (fun c8 => ?_) (fun c8 => ?_)
    · rw [if_pos c8] at h
      refine r_lconst C (0 : Int64) d_M_go_46 (by decide) ?_
      refine r_lv [1, 2, 0] rfl ?_
      exact t_M_go_47 C hr  h0 p1 r3 (0 : Int64) V4 h
    · rw [if_neg c8] at h
      refine r_aload_n (x := (some h0)) C d_M_go_37 rfl rfl ?_
      refine r_iload_n (x := p1) C d_M_go_38 rfl rfl ?_
      refine r_iconst C (0 : Int32) d_M_go_39 (by decide) ?_
      replace h := g_ob h; obtain ⟨n7, e_n7, h⟩ := h
      replace h := g_o2 h; obtain ⟨r5, V6, e_r5, h⟩ := h
      refine r_callV (As := [tI p1, tI (0 : Int32)]) C k_M_101 w_278 w_279 w_276 ⟨_, _, rfl⟩ (c_M_partOf l E base base h0 p1 (0 : Int32) L V4 e_r5) d_M_go_40 e_n7 rfl ⟨Nat.le_of_ble_eq_true rfl, Nat.le_of_ble_eq_true rfl⟩ (Nat.le_of_ble_eq_true rfl) (Nat.le_of_ble_eq_true rfl) (Nat.le_of_ble_eq_true rfl) rfl ?_
      refine r_goto C 47 d_M_go_43 (by decide) ?_
      refine r_lv [1, 2, 0] rfl ?_
      exact t_M_go_47 C hr  h0 p1 r3 r5 V6 h
  · rw [if_neg c17] at h
    refine r_aload_n (x := (some h0)) C d_M_go_8 rfl rfl ?_
    replace h := g_ob h; obtain ⟨x10, e_x10, h⟩ := h
    refine r_getR C f_M_54 d_M_go_9 e_x10 ?_
    refine r_iload_n (x := p1) C d_M_go_12 rfl rfl ?_
    refine r_iconst C (5 : Int32) d_M_go_13 (by decide) ?_
    replace h := g_ob h; obtain ⟨a11, rfl, h⟩ := h
    replace h := g_ob h; obtain ⟨V12, e_V12, h⟩ := h
    refine r_iast C ak_100 d_M_go_14 e_V12 ?_
    refine r_aload_n (x := (some h0)) C d_M_go_15 rfl rfl ?_
    replace h := g_ob h; obtain ⟨x13, e_x13, h⟩ := h
    refine r_getR C f_M_60 d_M_go_16 e_x13 ?_
    refine r_iconst C (3 : Int32) d_M_go_19 (by decide) ?_
    refine r_dup2 C d_M_go_20 rfl rfl ?_
    replace h := g_ob h; obtain ⟨a14, rfl, h⟩ := h
    replace h := g_ob h; obtain ⟨x15, e_x15, h⟩ := h
    refine r_iald C ak_100 d_M_go_21 e_x15 ?_
    refine r_iconst C (1 : Int32) d_M_go_22 (by decide) ?_
    refine r_iadd C d_M_go_23 ?_
    replace h := g_ob h; obtain ⟨V16, e_V16, h⟩ := h
    refine r_iast C ak_100 d_M_go_24 e_V16 ?_
    refine r_iconst C (0 : Int32) d_M_go_25 (by decide) ?_
    cases h
    exact r_iret C hr d_M_go_26
theorem c_M_go (l : Launch) (E : gE) (base : Nat) (h0 : Nat) (p1 : Int32) (L : gL) (V : gV) {z : Int32 × gV} (h : D_M_go h0 p1 L V = some z) : g_Met l E base base y_M_go b_M_go 8 (some .int) rm_M_go [tR (some h0), tI p1] L V (some (tI z.1)) L z.2 :=
  r_enter R_M (by decide) rfl [tR (some h0), tI p1] [(0, tR (some h0)), (1, tI p1)] rfl (Nat.le_of_ble_eq_true rfl) (fun p e s m args below meth c C hr hnm => t_M_go_0 C hr h0 p1 V h)
def rm_M_build : Room := { frames := 7, cells := 0, slots := 0, locals := 169 }
def D_M_build_66 (L : gL) : Nat → Nat → Int32 → Int32 → gV → Option (Int32 × gV)
  | 0, _, _, _, _ => none
  | n + 1, v0, v2, v3, V =>
  Option.bind (g_rI L V 4 v0 2) fun x1 =>
    (if x1 ≤ v3 then
    some (v2, V)
  else
    Option.bind (g_rR L V 4 v0 21) fun x2 =>
    Option.bind x2 fun a3 =>
    Option.bind (g_aI L V 102 a3 v3) fun x4 =>
    (if x4 = 0 then
    D_M_build_66 L  n v0 (v2 + (0 : Int32)) (v3 + (1 : Int32)) V
  else
    Option.bind ((L).2 4 v0) fun n7 =>
    g_b2 (D_M_go v0 v3 L V) fun r5 V6 =>
    D_M_build_66 L  n v0 (v2 + r5) (v3 + (1 : Int32)) V6))
def D_M_build_27 (L : gL) : Nat → Nat → Int32 → Int32 → gV → Option (Int32 × gV)
  | 0, _, _, _, _ => none
  | n + 1, v0, v1, v2, V =>
  (if (16 : Int32) ≤ v2 then
    Option.bind ((L).2 4 v0) fun n6 =>
    g_b2 (D_M_take v0 v1 L V) fun r1 V2 =>
    Option.bind ((L).2 4 v0) fun n5 =>
    g_b2 (D_M_mark v0 L V2) fun r3 V4 =>
    D_M_build_66 L  1000 v0 (0 : Int32) (0 : Int32) V4
  else
    Option.bind (g_rR L V 4 v0 17) fun x7 =>
    Option.bind x7 fun a8 =>
    Option.bind (g_wa L V 100 a8 v2 (tI (0 : Int32))) fun V9 =>
    Option.bind (g_rR L V9 4 v0 18) fun x10 =>
    Option.bind x10 fun a11 =>
    Option.bind (g_wa L V9 100 a11 v2 (tI (-1 : Int32))) fun V12 =>
    D_M_build_27 L  n v0 v1 (v2 + (1 : Int32)) V12)
def D_M_build_7 (L : gL) : Nat → Nat → Int32 → Int32 → gV → Option (Int32 × gV)
  | 0, _, _, _, _ => none
  | n + 1, v0, v1, v2, V =>
  (if (5 : Int32) ≤ v2 then
    D_M_build_27 L  1000 v0 v1 (0 : Int32) V
  else
    Option.bind (g_rR L V 4 v0 19) fun x1 =>
    Option.bind x1 fun a2 =>
    Option.bind (g_wa L V 100 a2 v2 (tI (0 : Int32))) fun V3 =>
    D_M_build_7 L  n v0 v1 (v2 + (1 : Int32)) V3)
def D_M_build (h0 : Nat) (p1 : Int32) (L : gL) (V : gV) : Option (Int32 × gV) :=
  Option.bind (g_wr L V 4 h0 0 (tI (0 : Int32))) fun V1 =>
    D_M_build_7 L  1000 h0 p1 (0 : Int32) V1
set_option maxHeartbeats 4000000 in
set_option maxRecDepth 100000 in
theorem t_M_build_66 (C : gC E base p s m args meth c b_M_build R_M 4) (hr : meth.sig.returnType = (some .int)) {z : Int32 × gV} : ∀ (n : Nat) (v0 : Nat) (v2 : Int32) (v3 : Int32) (V : gV), D_M_build_66 L  n v0 v2 v3 V = some z → vW E base base 4 p l e rm_M_build s m args below meth c 0 0 (g_MQ E base base below args s 0 0 L z.2 (some (tI z.1))) L V 66 [(0, tR (some v0)), (2, tI v2), (3, tI v3)] [] := by
  intro n
  induction n with
  | zero =>
    intro v0 v2 v3 V h
    rw [D_M_build_66] at h
    cases h
  | succ n ih =>
    intro v0 v2 v3 V h
    rw [D_M_build_66] at h
    refine r_iload_n (x := v3) C d_M_build_66 rfl rfl ?_
    refine r_aload_n (x := (some v0)) C d_M_build_67 rfl rfl ?_
    replace h := g_ob h; obtain ⟨x1, e_x1, h⟩ := h
    refine r_getI C f_M_79 d_M_build_68 e_x1 ?_
    refine r_icmp_ge C 101 d_M_build_71 (by decide) (fun c9 => ?_) (fun c9 => ?_)
    · rw [if_pos c9] at h
      refine r_iload_n (x := v2) C d_M_build_101 rfl rfl ?_
      cases h
      exact r_iret C hr d_M_build_102
    · rw [if_neg c9] at h
      refine r_iload_n (x := v2) C d_M_build_74 rfl rfl ?_
      refine r_aload_n (x := (some v0)) C d_M_build_75 rfl rfl ?_
      replace h := g_ob h; obtain ⟨x2, e_x2, h⟩ := h
      refine r_getR C f_M_66 d_M_build_76 e_x2 ?_
      refine r_iload_n (x := v3) C d_M_build_79 rfl rfl ?_
      replace h := g_ob h; obtain ⟨a3, rfl, h⟩ := h
      replace h := g_ob h; obtain ⟨x4, e_x4, h⟩ := h
      refine r_zald C ak_102 d_M_build_80 e_x4 ?_
      refine r_if_eq C 92 d_M_build_81 (by decide) (fun c8 => ?_) (fun c8 => ?_)
      · rw [if_pos c8] at h
        refine r_iconst C (0 : Int32) d_M_build_92 (by decide) ?_
        refine r_iadd C d_M_build_93 ?_
        refine r_istore_n (lv' := [(2, tI (v2 + (0 : Int32))), (0, tR (some v0)), (3, tI v3)]) C d_M_build_94 rfl (by decide) rfl ?_
        refine r_iinc (x := v3) (v := v3 + (1 : Int32)) (lv' := [(3, tI (v3 + (1 : Int32))), (2, tI (v2 + (0 : Int32))), (0, tR (some v0))]) C d_M_build_95 rfl rfl (by decide) rfl ?_
        refine r_goto C 66 d_M_build_98 (by decide) ?_
        refine r_lv [2, 1, 0] rfl ?_
        exact ih v0 (v2 + (0 : Int32)) (v3 + (1 : Int32)) V h
      · rw [if_neg c8] at h
        refine r_aload_n (x := (some v0)) C d_M_build_84 rfl rfl ?_
        refine r_iload_n (x := v3) C d_M_build_85 rfl rfl ?_
        replace h := g_ob h; obtain ⟨n7, e_n7, h⟩ := h
        replace h := g_o2 h; obtain ⟨r5, V6, e_r5, h⟩ := h
        refine r_callV (As := [tI v3]) C k_M_162 w_344 w_345 w_342 ⟨_, _, rfl⟩ (c_M_go l E base v0 v3 L V e_r5) d_M_build_86 e_n7 rfl ⟨Nat.le_of_ble_eq_true rfl, Nat.le_of_ble_eq_true rfl⟩ (Nat.le_of_ble_eq_true rfl) (Nat.le_of_ble_eq_true rfl) (Nat.le_of_ble_eq_true rfl) rfl ?_
        refine r_goto C 93 d_M_build_89 (by decide) ?_
        refine r_iadd C d_M_build_93 ?_
        refine r_istore_n (lv' := [(2, tI (v2 + r5)), (0, tR (some v0)), (3, tI v3)]) C d_M_build_94 rfl (by decide) rfl ?_
        refine r_iinc (x := v3) (v := v3 + (1 : Int32)) (lv' := [(3, tI (v3 + (1 : Int32))), (2, tI (v2 + r5)), (0, tR (some v0))]) C d_M_build_95 rfl rfl (by decide) rfl ?_
        refine r_goto C 66 d_M_build_98 (by decide) ?_
        refine r_lv [2, 1, 0] rfl ?_
        exact ih v0 (v2 + r5) (v3 + (1 : Int32)) V6 h
set_option maxHeartbeats 4000000 in
set_option maxRecDepth 100000 in
theorem t_M_build_27 (C : gC E base p s m args meth c b_M_build R_M 4) (hr : meth.sig.returnType = (some .int)) {z : Int32 × gV} : ∀ (n : Nat) (v0 : Nat) (v1 : Int32) (v2 : Int32) (V : gV), D_M_build_27 L  n v0 v1 v2 V = some z → vW E base base 4 p l e rm_M_build s m args below meth c 0 0 (g_MQ E base base below args s 0 0 L z.2 (some (tI z.1))) L V 27 [(0, tR (some v0)), (1, tI v1), (2, tI v2)] [] := by
  intro n
  induction n with
  | zero =>
    intro v0 v1 v2 V h
    rw [D_M_build_27] at h
    cases h
  | succ n ih =>
    intro v0 v1 v2 V h
    rw [D_M_build_27] at h
    refine r_iload_n (x := v2) C d_M_build_27 rfl rfl ?_
    refine r_bipush C (16 : Int32) d_M_build_28 (by decide) ?_
    refine r_icmp_ge C 53 d_M_build_30 (by decide) (fun c13 => ?_) (fun c13 => ?_)
    · rw [if_pos c13] at h
      refine r_aload_n (x := (some v0)) C d_M_build_53 rfl rfl ?_
      refine r_iload_n (x := v1) C d_M_build_54 rfl rfl ?_
      replace h := g_ob h; obtain ⟨n6, e_n6, h⟩ := h
      replace h := g_o2 h; obtain ⟨r1, V2, e_r1, h⟩ := h
      refine r_callV (As := [tI v1]) C k_M_156 w_340 w_341 w_334 ⟨_, _, rfl⟩ (c_M_take l E base v0 v1 L V e_r1) d_M_build_55 e_n6 rfl ⟨Nat.le_of_ble_eq_true rfl, Nat.le_of_ble_eq_true rfl⟩ (Nat.le_of_ble_eq_true rfl) (Nat.le_of_ble_eq_true rfl) (Nat.le_of_ble_eq_true rfl) rfl ?_
      refine r_aload_n (x := (some v0)) C d_M_build_58 rfl rfl ?_
      replace h := g_ob h; obtain ⟨n5, e_n5, h⟩ := h
      replace h := g_o2 h; obtain ⟨r3, V4, e_r3, h⟩ := h
      refine r_callV (As := []) C k_M_159 w_338 w_339 w_336 ⟨_, _, rfl⟩ (c_M_mark l E base v0 L V2 e_r3) d_M_build_59 e_n5 rfl ⟨Nat.le_of_ble_eq_true rfl, Nat.le_of_ble_eq_true rfl⟩ (Nat.le_of_ble_eq_true rfl) (Nat.le_of_ble_eq_true rfl) (Nat.le_of_ble_eq_true rfl) rfl ?_
      refine r_iconst C (0 : Int32) d_M_build_62 (by decide) ?_
      refine r_istore_n (lv' := [(2, tI (0 : Int32)), (0, tR (some v0)), (1, tI v1)]) C d_M_build_63 rfl (by decide) rfl ?_
      refine r_iconst C (0 : Int32) d_M_build_64 (by decide) ?_
      refine r_istore_n (lv' := [(3, tI (0 : Int32)), (2, tI (0 : Int32)), (0, tR (some v0)), (1, tI v1)]) C d_M_build_65 rfl (by decide) rfl ?_
      refine r_lv [2, 1, 0] rfl ?_
      exact t_M_build_66 C hr  1000 v0 (0 : Int32) (0 : Int32) V4 h
    · rw [if_neg c13] at h
      refine r_aload_n (x := (some v0)) C d_M_build_33 rfl rfl ?_
      replace h := g_ob h; obtain ⟨x7, e_x7, h⟩ := h
      refine r_getR C f_M_54 d_M_build_34 e_x7 ?_
      refine r_iload_n (x := v2) C d_M_build_37 rfl rfl ?_
      refine r_iconst C (0 : Int32) d_M_build_38 (by decide) ?_
      replace h := g_ob h; obtain ⟨a8, rfl, h⟩ := h
      replace h := g_ob h; obtain ⟨V9, e_V9, h⟩ := h
      refine r_iast C ak_100 d_M_build_39 e_V9 ?_
      refine r_aload_n (x := (some v0)) C d_M_build_40 rfl rfl ?_
      replace h := g_ob h; obtain ⟨x10, e_x10, h⟩ := h
      refine r_getR C f_M_57 d_M_build_41 e_x10 ?_
      refine r_iload_n (x := v2) C d_M_build_44 rfl rfl ?_
      refine r_iconst C (-1 : Int32) d_M_build_45 (by decide) ?_
      replace h := g_ob h; obtain ⟨a11, rfl, h⟩ := h
      replace h := g_ob h; obtain ⟨V12, e_V12, h⟩ := h
      refine r_iast C ak_100 d_M_build_46 e_V12 ?_
      refine r_iinc (x := v2) (v := v2 + (1 : Int32)) (lv' := [(2, tI (v2 + (1 : Int32))), (0, tR (some v0)), (1, tI v1)]) C d_M_build_47 rfl rfl (by decide) rfl ?_
      refine r_goto C 27 d_M_build_50 (by decide) ?_
      refine r_lv [1, 2, 0] rfl ?_
      exact ih v0 v1 (v2 + (1 : Int32)) V12 h
set_option maxHeartbeats 4000000 in
set_option maxRecDepth 100000 in
theorem t_M_build_7 (C : gC E base p s m args meth c b_M_build R_M 4) (hr : meth.sig.returnType = (some .int)) {z : Int32 × gV} : ∀ (n : Nat) (v0 : Nat) (v1 : Int32) (v2 : Int32) (V : gV), D_M_build_7 L  n v0 v1 v2 V = some z → vW E base base 4 p l e rm_M_build s m args below meth c 0 0 (g_MQ E base base below args s 0 0 L z.2 (some (tI z.1))) L V 7 [(0, tR (some v0)), (1, tI v1), (2, tI v2)] [] := by
  intro n
  induction n with
  | zero =>
    intro v0 v1 v2 V h
    rw [D_M_build_7] at h
    cases h
  | succ n ih =>
    intro v0 v1 v2 V h
    rw [D_M_build_7] at h
    refine r_iload_n (x := v2) C d_M_build_7 rfl rfl ?_
    refine r_iconst C (5 : Int32) d_M_build_8 (by decide) ?_
    refine r_icmp_ge C 25 d_M_build_9 (by decide) (fun c4 => ?_) (fun c4 => ?_)
    · rw [if_pos c4] at h
      refine r_iconst C (0 : Int32) d_M_build_25 (by decide) ?_
      refine r_istore_n (lv' := [(2, tI (0 : Int32)), (0, tR (some v0)), (1, tI v1)]) C d_M_build_26 rfl (by decide) rfl ?_
      refine r_lv [1, 2, 0] rfl ?_
      exact t_M_build_27 C hr  1000 v0 v1 (0 : Int32) V h
    · rw [if_neg c4] at h
      refine r_aload_n (x := (some v0)) C d_M_build_12 rfl rfl ?_
      replace h := g_ob h; obtain ⟨x1, e_x1, h⟩ := h
      refine r_getR C f_M_60 d_M_build_13 e_x1 ?_
      refine r_iload_n (x := v2) C d_M_build_16 rfl rfl ?_
      refine r_iconst C (0 : Int32) d_M_build_17 (by decide) ?_
      replace h := g_ob h; obtain ⟨a2, rfl, h⟩ := h
      replace h := g_ob h; obtain ⟨V3, e_V3, h⟩ := h
      refine r_iast C ak_100 d_M_build_18 e_V3 ?_
      refine r_iinc (x := v2) (v := v2 + (1 : Int32)) (lv' := [(2, tI (v2 + (1 : Int32))), (0, tR (some v0)), (1, tI v1)]) C d_M_build_19 rfl rfl (by decide) rfl ?_
      refine r_goto C 7 d_M_build_22 (by decide) ?_
      refine r_lv [1, 2, 0] rfl ?_
      exact ih v0 v1 (v2 + (1 : Int32)) V3 h
set_option maxHeartbeats 4000000 in
set_option maxRecDepth 100000 in
theorem t_M_build_0 (C : gC E base p s m args meth c b_M_build R_M 4) (hr : meth.sig.returnType = (some .int)) {z : Int32 × gV} (h0 : Nat) (p1 : Int32) (V : gV) (h : D_M_build h0 p1 L V = some z) : vW E base base 4 p l e rm_M_build s m args below meth c 0 0 (g_MQ E base base below args s 0 0 L z.2 (some (tI z.1))) L V 0 [(0, tR (some h0)), (1, tI p1)] [] := by
  unfold D_M_build at h
  refine r_aload_n (x := (some h0)) C d_M_build_0 rfl rfl ?_
  refine r_iconst C (0 : Int32) d_M_build_1 (by decide) ?_
  replace h := g_ob h; obtain ⟨V1, e_V1, h⟩ := h
  refine r_put C f_M_72 d_M_build_2 e_V1 (g_nI (0 : Int32)).1 (g_nI (0 : Int32)).2 ?_
  refine r_iconst C (0 : Int32) d_M_build_5 (by decide) ?_
  refine r_istore_n (lv' := [(2, tI (0 : Int32)), (0, tR (some h0)), (1, tI p1)]) C d_M_build_6 rfl (by decide) rfl ?_
  refine r_lv [1, 2, 0] rfl ?_
  exact t_M_build_7 C hr  1000 h0 p1 (0 : Int32) V1 h
theorem c_M_build (l : Launch) (E : gE) (base : Nat) (h0 : Nat) (p1 : Int32) (L : gL) (V : gV) {z : Int32 × gV} (h : D_M_build h0 p1 L V = some z) : g_Met l E base base y_M_build b_M_build 4 (some .int) rm_M_build [tR (some h0), tI p1] L V (some (tI z.1)) L z.2 :=
  r_enter R_M (by decide) rfl [tR (some h0), tI p1] [(0, tR (some h0)), (1, tI p1)] rfl (Nat.le_of_ble_eq_true rfl) (fun p e s m args below meth c C hr hnm => t_M_build_0 C hr h0 p1 V h)
def rm_M_state : Room := { frames := 1, cells := 0, slots := 0, locals := 21 }
def D_M_state (h0 : Nat) (p1 : Int32) (L : gL) (V : gV) : Option (Int32 × gV) :=
  Option.bind (g_wr L V 4 h0 0 (tI (0 : Int32))) fun V1 =>
    Option.bind ((L).2 4 h0) fun n8 =>
    g_b2 (D_M_isStep h0 p1 L V1) fun r2 V3 =>
    (if r2 = 0 then
    some ((0 : Int32), V3)
  else
    Option.bind (g_rR L V3 4 h0 17) fun x4 =>
    Option.bind x4 fun a5 =>
    Option.bind (g_aI L V3 100 a5 p1) fun x6 =>
    some (x6, V3))
set_option maxHeartbeats 4000000 in
set_option maxRecDepth 100000 in
theorem t_M_state_0 (C : gC E base p s m args meth c b_M_state R_M 2) (hr : meth.sig.returnType = (some .int)) {z : Int32 × gV} (h0 : Nat) (p1 : Int32) (V : gV) (h : D_M_state h0 p1 L V = some z) : vW E base base 2 p l e rm_M_state s m args below meth c 0 0 (g_MQ E base base below args s 0 0 L z.2 (some (tI z.1))) L V 0 [(0, tR (some h0)), (1, tI p1)] [] := by
  unfold D_M_state at h
  refine r_aload_n (x := (some h0)) C d_M_state_0 rfl rfl ?_
  refine r_iconst C (0 : Int32) d_M_state_1 (by decide) ?_
  replace h := g_ob h; obtain ⟨V1, e_V1, h⟩ := h
  refine r_put C f_M_72 d_M_state_2 e_V1 (g_nI (0 : Int32)).1 (g_nI (0 : Int32)).2 ?_
  refine r_aload_n (x := (some h0)) C d_M_state_5 rfl rfl ?_
  refine r_iload_n (x := p1) C d_M_state_6 rfl rfl ?_
  replace h := g_ob h; obtain ⟨n8, e_n8, h⟩ := h
  replace h := g_o2 h; obtain ⟨r2, V3, e_r2, h⟩ := h
  refine r_callV (As := [tI p1]) C k_M_86 w_269 w_270 w_263 ⟨_, _, rfl⟩ (c_M_isStep l E base base h0 p1 L V1 e_r2) d_M_state_7 e_n8 rfl ⟨Nat.le_of_ble_eq_true rfl, Nat.le_of_ble_eq_true rfl⟩ (Nat.le_of_ble_eq_true rfl) (Nat.le_of_ble_eq_true rfl) (Nat.le_of_ble_eq_true rfl) rfl ?_
  refine r_if_eq C 22 d_M_state_10 (by decide) (fun c7 => ?_) (fun c7 => ?_)
  · rw [if_pos c7] at h
    refine r_iconst C (0 : Int32) d_M_state_22 (by decide) ?_
    cases h
    exact r_iret C hr d_M_state_23
  · rw [if_neg c7] at h
    refine r_aload_n (x := (some h0)) C d_M_state_13 rfl rfl ?_
    replace h := g_ob h; obtain ⟨x4, e_x4, h⟩ := h
    refine r_getR C f_M_54 d_M_state_14 e_x4 ?_
    refine r_iload_n (x := p1) C d_M_state_17 rfl rfl ?_
    replace h := g_ob h; obtain ⟨a5, rfl, h⟩ := h
    replace h := g_ob h; obtain ⟨x6, e_x6, h⟩ := h
    refine r_iald C ak_100 d_M_state_18 e_x6 ?_
    refine r_goto C 23 d_M_state_19 (by decide) ?_
    cases h
    exact r_iret C hr d_M_state_23
theorem c_M_state (l : Launch) (E : gE) (base : Nat) (h0 : Nat) (p1 : Int32) (L : gL) (V : gV) {z : Int32 × gV} (h : D_M_state h0 p1 L V = some z) : g_Met l E base base y_M_state b_M_state 2 (some .int) rm_M_state [tR (some h0), tI p1] L V (some (tI z.1)) L z.2 :=
  r_enter R_M (by decide) rfl [tR (some h0), tI p1] [(0, tR (some h0)), (1, tI p1)] rfl (Nat.le_of_ble_eq_true rfl) (fun p e s m args below meth c C hr hnm => t_M_state_0 C hr h0 p1 V h)
def rm_M_cause : Room := { frames := 1, cells := 0, slots := 0, locals := 21 }
def D_M_cause_33 (L : gL) (v0 : Nat) (v1 : Int32) (V : gV) : Option (Int32 × gV) :=
  Option.bind (g_rR L V 4 v0 18) fun x1 =>
    Option.bind x1 fun a2 =>
    Option.bind (g_aI L V 100 a2 v1) fun x3 =>
    some (x3, V)
def D_M_cause (h0 : Nat) (p1 : Int32) (L : gL) (V : gV) : Option (Int32 × gV) :=
  Option.bind (g_wr L V 4 h0 0 (tI (0 : Int32))) fun V1 =>
    Option.bind ((L).2 4 h0) fun n13 =>
    g_b2 (D_M_isStep h0 p1 L V1) fun r2 V3 =>
    (if r2 = 0 then
    some ((-1 : Int32), V3)
  else
    Option.bind (g_rR L V3 4 h0 17) fun x4 =>
    Option.bind x4 fun a5 =>
    Option.bind (g_aI L V3 100 a5 p1) fun x6 =>
    (if x6 = (2 : Int32) then
    D_M_cause_33 L  h0 p1 V3
  else
    Option.bind (g_rR L V3 4 h0 17) fun x7 =>
    Option.bind x7 fun a8 =>
    Option.bind (g_aI L V3 100 a8 p1) fun x9 =>
    (if x9 = (3 : Int32) then
    D_M_cause_33 L  h0 p1 V3
  else
    some ((-1 : Int32), V3))))
set_option maxHeartbeats 4000000 in
set_option maxRecDepth 100000 in
theorem t_M_cause_33 (C : gC E base p s m args meth c b_M_cause R_M 2) (hr : meth.sig.returnType = (some .int)) {z : Int32 × gV} (v0 : Nat) (v1 : Int32) (V : gV) (h : D_M_cause_33 L  v0 v1 V = some z) : vW E base base 2 p l e rm_M_cause s m args below meth c 0 0 (g_MQ E base base below args s 0 0 L z.2 (some (tI z.1))) L V 33 [(0, tR (some v0)), (1, tI v1)] [] := by
  unfold D_M_cause_33 at h
  refine r_aload_n (x := (some v0)) C d_M_cause_33 rfl rfl ?_
  replace h := g_ob h; obtain ⟨x1, e_x1, h⟩ := h
  refine r_getR C f_M_57 d_M_cause_34 e_x1 ?_
  refine r_iload_n (x := v1) C d_M_cause_37 rfl rfl ?_
  replace h := g_ob h; obtain ⟨a2, rfl, h⟩ := h
  replace h := g_ob h; obtain ⟨x3, e_x3, h⟩ := h
  refine r_iald C ak_100 d_M_cause_38 e_x3 ?_
  refine r_goto C 43 d_M_cause_39 (by decide) ?_
  cases h
  exact r_iret C hr d_M_cause_43
set_option maxHeartbeats 4000000 in
set_option maxRecDepth 100000 in
theorem t_M_cause_0 (C : gC E base p s m args meth c b_M_cause R_M 2) (hr : meth.sig.returnType = (some .int)) {z : Int32 × gV} (h0 : Nat) (p1 : Int32) (V : gV) (h : D_M_cause h0 p1 L V = some z) : vW E base base 2 p l e rm_M_cause s m args below meth c 0 0 (g_MQ E base base below args s 0 0 L z.2 (some (tI z.1))) L V 0 [(0, tR (some h0)), (1, tI p1)] [] := by
  unfold D_M_cause at h
  refine r_aload_n (x := (some h0)) C d_M_cause_0 rfl rfl ?_
  refine r_iconst C (0 : Int32) d_M_cause_1 (by decide) ?_
  replace h := g_ob h; obtain ⟨V1, e_V1, h⟩ := h
  refine r_put C f_M_72 d_M_cause_2 e_V1 (g_nI (0 : Int32)).1 (g_nI (0 : Int32)).2 ?_
  refine r_aload_n (x := (some h0)) C d_M_cause_5 rfl rfl ?_
  refine r_iload_n (x := p1) C d_M_cause_6 rfl rfl ?_
  replace h := g_ob h; obtain ⟨n13, e_n13, h⟩ := h
  replace h := g_o2 h; obtain ⟨r2, V3, e_r2, h⟩ := h
  refine r_callV (As := [tI p1]) C k_M_86 w_269 w_270 w_263 ⟨_, _, rfl⟩ (c_M_isStep l E base base h0 p1 L V1 e_r2) d_M_cause_7 e_n13 rfl ⟨Nat.le_of_ble_eq_true rfl, Nat.le_of_ble_eq_true rfl⟩ (Nat.le_of_ble_eq_true rfl) (Nat.le_of_ble_eq_true rfl) (Nat.le_of_ble_eq_true rfl) rfl ?_
  refine r_if_eq C 42 d_M_cause_10 (by decide) (fun c12 => ?_) (fun c12 => ?_)
  · rw [if_pos c12] at h
    refine r_iconst C (-1 : Int32) d_M_cause_42 (by decide) ?_
    cases h
    exact r_iret C hr d_M_cause_43
  · rw [if_neg c12] at h
    refine r_aload_n (x := (some h0)) C d_M_cause_13 rfl rfl ?_
    replace h := g_ob h; obtain ⟨x4, e_x4, h⟩ := h
    refine r_getR C f_M_54 d_M_cause_14 e_x4 ?_
    refine r_iload_n (x := p1) C d_M_cause_17 rfl rfl ?_
    replace h := g_ob h; obtain ⟨a5, rfl, h⟩ := h
    replace h := g_ob h; obtain ⟨x6, e_x6, h⟩ := h
    refine r_iald C ak_100 d_M_cause_18 e_x6 ?_
    refine r_iconst C (2 : Int32) d_M_cause_19 (by decide) ?_
    refine r_icmp_eq C 33 d_M_cause_20 (by decide) (fun c11 => ?_) (fun c11 => ?_)
    · rw [if_pos c11] at h
      exact t_M_cause_33 C hr  h0 p1 V3 h
    · rw [if_neg c11] at h
      refine r_aload_n (x := (some h0)) C d_M_cause_23 rfl rfl ?_
      replace h := g_ob h; obtain ⟨x7, e_x7, h⟩ := h
      refine r_getR C f_M_54 d_M_cause_24 e_x7 ?_
      refine r_iload_n (x := p1) C d_M_cause_27 rfl rfl ?_
      replace h := g_ob h; obtain ⟨a8, rfl, h⟩ := h
      replace h := g_ob h; obtain ⟨x9, e_x9, h⟩ := h
      refine r_iald C ak_100 d_M_cause_28 e_x9 ?_
      refine r_iconst C (3 : Int32) d_M_cause_29 (by decide) ?_
      refine r_icmp_ne C 42 d_M_cause_30 (by decide) (fun c10 => ?_) (fun c10 => ?_)
      · rw [if_neg c10] at h
        refine r_iconst C (-1 : Int32) d_M_cause_42 (by decide) ?_
        cases h
        exact r_iret C hr d_M_cause_43
      · rw [if_pos c10] at h
        exact t_M_cause_33 C hr  h0 p1 V3 h
theorem c_M_cause (l : Launch) (E : gE) (base : Nat) (h0 : Nat) (p1 : Int32) (L : gL) (V : gV) {z : Int32 × gV} (h : D_M_cause h0 p1 L V = some z) : g_Met l E base base y_M_cause b_M_cause 2 (some .int) rm_M_cause [tR (some h0), tI p1] L V (some (tI z.1)) L z.2 :=
  r_enter R_M (by decide) rfl [tR (some h0), tI p1] [(0, tR (some h0)), (1, tI p1)] rfl (Nat.le_of_ble_eq_true rfl) (fun p e s m args below meth c C hr hnm => t_M_cause_0 C hr h0 p1 V h)
def rm_M_counted : Room := { frames := 0, cells := 0, slots := 0, locals := 0 }
def D_M_counted_14 (L : gL)  (V : gV) : Option (Int32 × gV) :=
  some ((-1 : Int32), V)
def D_M_counted (h0 : Nat) (p1 : Int32) (L : gL) (V : gV) : Option (Int32 × gV) :=
  Option.bind (g_wr L V 4 h0 0 (tI (0 : Int32))) fun V1 =>
    (if p1 < 0 then
    D_M_counted_14 L   V1
  else
    (if p1 ≤ (4 : Int32) then
    Option.bind (g_rR L V1 4 h0 19) fun x2 =>
    Option.bind x2 fun a3 =>
    Option.bind (g_aI L V1 100 a3 p1) fun x4 =>
    some (x4, V1)
  else
    D_M_counted_14 L   V1))
set_option maxHeartbeats 4000000 in
set_option maxRecDepth 100000 in
theorem t_M_counted_14 (C : gC E base p s m args meth c b_M_counted R_M 2) (hr : meth.sig.returnType = (some .int)) {z : Int32 × gV}  (V : gV) (h : D_M_counted_14 L   V = some z) : vW E base base 2 p l e rm_M_counted s m args below meth c 0 0 (g_MQ E base base below args s 0 0 L z.2 (some (tI z.1))) L V 14 [] [] := by
  unfold D_M_counted_14 at h
  refine r_iconst C (-1 : Int32) d_M_counted_14 (by decide) ?_
  refine r_goto C 24 d_M_counted_15 (by decide) ?_
  cases h
  exact r_iret C hr d_M_counted_24
set_option maxHeartbeats 4000000 in
set_option maxRecDepth 100000 in
theorem t_M_counted_0 (C : gC E base p s m args meth c b_M_counted R_M 2) (hr : meth.sig.returnType = (some .int)) {z : Int32 × gV} (h0 : Nat) (p1 : Int32) (V : gV) (h : D_M_counted h0 p1 L V = some z) : vW E base base 2 p l e rm_M_counted s m args below meth c 0 0 (g_MQ E base base below args s 0 0 L z.2 (some (tI z.1))) L V 0 [(0, tR (some h0)), (1, tI p1)] [] := by
  unfold D_M_counted at h
  refine r_aload_n (x := (some h0)) C d_M_counted_0 rfl rfl ?_
  refine r_iconst C (0 : Int32) d_M_counted_1 (by decide) ?_
  replace h := g_ob h; obtain ⟨V1, e_V1, h⟩ := h
  refine r_put C f_M_72 d_M_counted_2 e_V1 (g_nI (0 : Int32)).1 (g_nI (0 : Int32)).2 ?_
  refine r_iload_n (x := p1) C d_M_counted_5 rfl rfl ?_
  refine r_if_lt C 14 d_M_counted_6 (by decide) (fun c6 => ?_) (fun c6 => ?_)
  · rw [if_pos c6] at h
    refine r_lv [] rfl ?_
    exact t_M_counted_14 C hr   V1 h
  · rw [if_neg c6] at h
    refine r_iload_n (x := p1) C d_M_counted_9 rfl rfl ?_
    refine r_iconst C (4 : Int32) d_M_counted_10 (by decide) ?_
    refine r_icmp_le C 18 d_M_counted_11 (by decide) (fun c5 => ?_) (fun c5 => ?_)
    · rw [if_pos c5] at h
      refine r_aload_n (x := (some h0)) C d_M_counted_18 rfl rfl ?_
      replace h := g_ob h; obtain ⟨x2, e_x2, h⟩ := h
      refine r_getR C f_M_60 d_M_counted_19 e_x2 ?_
      refine r_iload_n (x := p1) C d_M_counted_22 rfl rfl ?_
      replace h := g_ob h; obtain ⟨a3, rfl, h⟩ := h
      replace h := g_ob h; obtain ⟨x4, e_x4, h⟩ := h
      refine r_iald C ak_100 d_M_counted_23 e_x4 ?_
      cases h
      exact r_iret C hr d_M_counted_24
    · rw [if_neg c5] at h
      refine r_lv [] rfl ?_
      exact t_M_counted_14 C hr   V1 h
theorem c_M_counted (l : Launch) (E : gE) (base : Nat) (h0 : Nat) (p1 : Int32) (L : gL) (V : gV) {z : Int32 × gV} (h : D_M_counted h0 p1 L V = some z) : g_Met l E base base y_M_counted b_M_counted 2 (some .int) rm_M_counted [tR (some h0), tI p1] L V (some (tI z.1)) L z.2 :=
  r_enter R_M (by decide) rfl [tR (some h0), tI p1] [(0, tR (some h0)), (1, tI p1)] rfl (Nat.le_of_ble_eq_true rfl) (fun p e s m args below meth c C hr hnm => t_M_counted_0 C hr h0 p1 V h)
def rm_M_output : Room := { frames := 2, cells := 0, slots := 0, locals := 43 }
def D_M_output_43 (L : gL) (v0 : Nat) (v1 : Int32) (v2 : Int32) (V : gV) : Option (Int64 × gV) :=
  Option.bind (g_rI L V 4 v0 0) fun x1 =>
    (if x1 = 0 then
    Option.bind ((L).2 4 v0) fun n4 =>
    g_b2 (D_M_partOf v0 v1 v2 L V) fun r2 V3 =>
    some (r2, V3)
  else
    some ((0 : Int64), V))
def D_M_output_22 (L : gL) (v0 : Nat) (v1 : Int32) (v2 : Int32) (V : gV) : Option (Int64 × gV) :=
  Option.bind (g_wr L V 4 v0 0 (tI (1 : Int32))) fun V1 =>
    D_M_output_43 L  v0 v1 v2 V1
def D_M_output (h0 : Nat) (p1 : Int32) (p2 : Int32) (L : gL) (V : gV) : Option (Int64 × gV) :=
  Option.bind (g_wr L V 4 h0 0 (tI (0 : Int32))) fun V1 =>
    Option.bind ((L).2 4 h0) fun n12 =>
    g_b2 (D_M_isStep h0 p1 L V1) fun r2 V3 =>
    (if r2 = 0 then
    D_M_output_22 L  h0 p1 p2 V3
  else
    (if p2 < 0 then
    D_M_output_22 L  h0 p1 p2 V3
  else
    (if p2 ≤ (1 : Int32) then
    Option.bind ((L).2 4 h0) fun n8 =>
    g_b2 (D_M_hasOutput h0 p1 L V3) fun r4 V5 =>
    (if r4 = 0 then
    Option.bind (g_wr L V5 4 h0 0 (tI (2 : Int32))) fun V6 =>
    D_M_output_43 L  h0 p1 p2 V6
  else
    D_M_output_43 L  h0 p1 p2 V5)
  else
    D_M_output_22 L  h0 p1 p2 V3)))
set_option maxHeartbeats 4000000 in
set_option maxRecDepth 100000 in
theorem t_M_output_43 (C : gC E base p s m args meth c b_M_output R_M 3) (hr : meth.sig.returnType = (some .long)) {z : Int64 × gV} (v0 : Nat) (v1 : Int32) (v2 : Int32) (V : gV) (h : D_M_output_43 L  v0 v1 v2 V = some z) : vW E base base 3 p l e rm_M_output s m args below meth c 0 0 (g_MQ E base base below args s 0 0 L z.2 (some (tJ z.1))) L V 43 [(0, tR (some v0)), (1, tI v1), (2, tI v2)] [] := by
  unfold D_M_output_43 at h
  refine r_aload_n (x := (some v0)) C d_M_output_43 rfl rfl ?_
  replace h := g_ob h; obtain ⟨x1, e_x1, h⟩ := h
  refine r_getI C f_M_72 d_M_output_44 e_x1 ?_
  refine r_if_eq C 54 d_M_output_47 (by decide) (fun c5 => ?_) (fun c5 => ?_)
  · rw [if_pos c5] at h
    refine r_aload_n (x := (some v0)) C d_M_output_54 rfl rfl ?_
    refine r_iload_n (x := v1) C d_M_output_55 rfl rfl ?_
    refine r_iload_n (x := v2) C d_M_output_56 rfl rfl ?_
    replace h := g_ob h; obtain ⟨n4, e_n4, h⟩ := h
    replace h := g_o2 h; obtain ⟨r2, V3, e_r2, h⟩ := h
    refine r_callV (As := [tI v1, tI v2]) C k_M_101 w_278 w_279 w_276 ⟨_, _, rfl⟩ (c_M_partOf l E base base v0 v1 v2 L V e_r2) d_M_output_57 e_n4 rfl ⟨Nat.le_of_ble_eq_true rfl, Nat.le_of_ble_eq_true rfl⟩ (Nat.le_of_ble_eq_true rfl) (Nat.le_of_ble_eq_true rfl) (Nat.le_of_ble_eq_true rfl) rfl ?_
    cases h
    exact r_lret C hr d_M_output_60
  · rw [if_neg c5] at h
    refine r_lconst C (0 : Int64) d_M_output_50 (by decide) ?_
    refine r_goto C 60 d_M_output_51 (by decide) ?_
    cases h
    exact r_lret C hr d_M_output_60
set_option maxHeartbeats 4000000 in
set_option maxRecDepth 100000 in
theorem t_M_output_22 (C : gC E base p s m args meth c b_M_output R_M 3) (hr : meth.sig.returnType = (some .long)) {z : Int64 × gV} (v0 : Nat) (v1 : Int32) (v2 : Int32) (V : gV) (h : D_M_output_22 L  v0 v1 v2 V = some z) : vW E base base 3 p l e rm_M_output s m args below meth c 0 0 (g_MQ E base base below args s 0 0 L z.2 (some (tJ z.1))) L V 22 [(0, tR (some v0)), (1, tI v1), (2, tI v2)] [] := by
  unfold D_M_output_22 at h
  refine r_aload_n (x := (some v0)) C d_M_output_22 rfl rfl ?_
  refine r_iconst C (1 : Int32) d_M_output_23 (by decide) ?_
  replace h := g_ob h; obtain ⟨V1, e_V1, h⟩ := h
  refine r_put C f_M_72 d_M_output_24 e_V1 (g_nI (1 : Int32)).1 (g_nI (1 : Int32)).2 ?_
  refine r_goto C 43 d_M_output_27 (by decide) ?_
  exact t_M_output_43 C hr  v0 v1 v2 V1 h
set_option maxHeartbeats 4000000 in
set_option maxRecDepth 100000 in
theorem t_M_output_0 (C : gC E base p s m args meth c b_M_output R_M 3) (hr : meth.sig.returnType = (some .long)) {z : Int64 × gV} (h0 : Nat) (p1 : Int32) (p2 : Int32) (V : gV) (h : D_M_output h0 p1 p2 L V = some z) : vW E base base 3 p l e rm_M_output s m args below meth c 0 0 (g_MQ E base base below args s 0 0 L z.2 (some (tJ z.1))) L V 0 [(0, tR (some h0)), (1, tI p1), (2, tI p2)] [] := by
  unfold D_M_output at h
  refine r_aload_n (x := (some h0)) C d_M_output_0 rfl rfl ?_
  refine r_iconst C (0 : Int32) d_M_output_1 (by decide) ?_
  replace h := g_ob h; obtain ⟨V1, e_V1, h⟩ := h
  refine r_put C f_M_72 d_M_output_2 e_V1 (g_nI (0 : Int32)).1 (g_nI (0 : Int32)).2 ?_
  refine r_aload_n (x := (some h0)) C d_M_output_5 rfl rfl ?_
  refine r_iload_n (x := p1) C d_M_output_6 rfl rfl ?_
  replace h := g_ob h; obtain ⟨n12, e_n12, h⟩ := h
  replace h := g_o2 h; obtain ⟨r2, V3, e_r2, h⟩ := h
  refine r_callV (As := [tI p1]) C k_M_86 w_269 w_270 w_263 ⟨_, _, rfl⟩ (c_M_isStep l E base base h0 p1 L V1 e_r2) d_M_output_7 e_n12 rfl ⟨Nat.le_of_ble_eq_true rfl, Nat.le_of_ble_eq_true rfl⟩ (Nat.le_of_ble_eq_true rfl) (Nat.le_of_ble_eq_true rfl) (Nat.le_of_ble_eq_true rfl) rfl ?_
  refine r_if_eq C 22 d_M_output_10 (by decide) (fun c11 => ?_) (fun c11 => ?_)
  · rw [if_pos c11] at h
    exact t_M_output_22 C hr  h0 p1 p2 V3 h
  · rw [if_neg c11] at h
    refine r_iload_n (x := p2) C d_M_output_13 rfl rfl ?_
    refine r_if_lt C 22 d_M_output_14 (by decide) (fun c10 => ?_) (fun c10 => ?_)
    · rw [if_pos c10] at h
      exact t_M_output_22 C hr  h0 p1 p2 V3 h
    · rw [if_neg c10] at h
      refine r_iload_n (x := p2) C d_M_output_17 rfl rfl ?_
      refine r_iconst C (1 : Int32) d_M_output_18 (by decide) ?_
      refine r_icmp_le C 30 d_M_output_19 (by decide) (fun c9 => ?_) (fun c9 => ?_)
      · rw [if_pos c9] at h
        refine r_aload_n (x := (some h0)) C d_M_output_30 rfl rfl ?_
        refine r_iload_n (x := p1) C d_M_output_31 rfl rfl ?_
        replace h := g_ob h; obtain ⟨n8, e_n8, h⟩ := h
        replace h := g_o2 h; obtain ⟨r4, V5, e_r4, h⟩ := h
        refine r_callV (As := [tI p1]) C k_M_130 w_310 w_311 w_308 ⟨_, _, rfl⟩ (c_M_hasOutput l E base base h0 p1 L V3 e_r4) d_M_output_32 e_n8 rfl ⟨Nat.le_of_ble_eq_true rfl, Nat.le_of_ble_eq_true rfl⟩ (Nat.le_of_ble_eq_true rfl) (Nat.le_of_ble_eq_true rfl) (Nat.le_of_ble_eq_true rfl) rfl ?_
        refine r_if_ne C 43 d_M_output_35 (by decide) (fun c7 => ?_) (fun c7 => ?_)
        · rw [if_neg c7] at h
          exact t_M_output_43 C hr  h0 p1 p2 V5 h
        · rw [if_pos c7] at h
          refine r_aload_n (x := (some h0)) C d_M_output_38 rfl rfl ?_
          refine r_iconst C (2 : Int32) d_M_output_39 (by decide) ?_
          replace h := g_ob h; obtain ⟨V6, e_V6, h⟩ := h
          refine r_put C f_M_72 d_M_output_40 e_V6 (g_nI (2 : Int32)).1 (g_nI (2 : Int32)).2 ?_
          exact t_M_output_43 C hr  h0 p1 p2 V6 h
      · rw [if_neg c9] at h
        exact t_M_output_22 C hr  h0 p1 p2 V3 h
theorem c_M_output (l : Launch) (E : gE) (base : Nat) (h0 : Nat) (p1 : Int32) (p2 : Int32) (L : gL) (V : gV) {z : Int64 × gV} (h : D_M_output h0 p1 p2 L V = some z) : g_Met l E base base y_M_output b_M_output 3 (some .long) rm_M_output [tR (some h0), tI p1, tI p2] L V (some (tJ z.1)) L z.2 :=
  r_enter R_M (by decide) rfl [tR (some h0), tI p1, tI p2] [(0, tR (some h0)), (1, tI p1), (2, tI p2)] rfl (Nat.le_of_ble_eq_true rfl) (fun p e s m args below meth c C hr hnm => t_M_output_0 C hr h0 p1 p2 V h)
def rm_M_records : Room := { frames := 1, cells := 0, slots := 0, locals := 21 }
def D_M_records (h0 : Nat) (p1 : Int32) (L : gL) (V : gV) : Option (Int32 × gV) :=
  Option.bind (g_wr L V 4 h0 0 (tI (0 : Int32))) fun V1 =>
    Option.bind ((L).2 4 h0) fun n8 =>
    g_b2 (D_M_isStep h0 p1 L V1) fun r2 V3 =>
    (if r2 = 0 then
    some ((0 : Int32), V3)
  else
    Option.bind (g_rR L V3 4 h0 12) fun x4 =>
    Option.bind x4 fun a5 =>
    Option.bind (g_aI L V3 100 a5 p1) fun x6 =>
    some (x6, V3))
set_option maxHeartbeats 4000000 in
set_option maxRecDepth 100000 in
theorem t_M_records_0 (C : gC E base p s m args meth c b_M_records R_M 2) (hr : meth.sig.returnType = (some .int)) {z : Int32 × gV} (h0 : Nat) (p1 : Int32) (V : gV) (h : D_M_records h0 p1 L V = some z) : vW E base base 2 p l e rm_M_records s m args below meth c 0 0 (g_MQ E base base below args s 0 0 L z.2 (some (tI z.1))) L V 0 [(0, tR (some h0)), (1, tI p1)] [] := by
  unfold D_M_records at h
  refine r_aload_n (x := (some h0)) C d_M_records_0 rfl rfl ?_
  refine r_iconst C (0 : Int32) d_M_records_1 (by decide) ?_
  replace h := g_ob h; obtain ⟨V1, e_V1, h⟩ := h
  refine r_put C f_M_72 d_M_records_2 e_V1 (g_nI (0 : Int32)).1 (g_nI (0 : Int32)).2 ?_
  refine r_aload_n (x := (some h0)) C d_M_records_5 rfl rfl ?_
  refine r_iload_n (x := p1) C d_M_records_6 rfl rfl ?_
  replace h := g_ob h; obtain ⟨n8, e_n8, h⟩ := h
  replace h := g_o2 h; obtain ⟨r2, V3, e_r2, h⟩ := h
  refine r_callV (As := [tI p1]) C k_M_86 w_269 w_270 w_263 ⟨_, _, rfl⟩ (c_M_isStep l E base base h0 p1 L V1 e_r2) d_M_records_7 e_n8 rfl ⟨Nat.le_of_ble_eq_true rfl, Nat.le_of_ble_eq_true rfl⟩ (Nat.le_of_ble_eq_true rfl) (Nat.le_of_ble_eq_true rfl) (Nat.le_of_ble_eq_true rfl) rfl ?_
  refine r_if_eq C 22 d_M_records_10 (by decide) (fun c7 => ?_) (fun c7 => ?_)
  · rw [if_pos c7] at h
    refine r_iconst C (0 : Int32) d_M_records_22 (by decide) ?_
    cases h
    exact r_iret C hr d_M_records_23
  · rw [if_neg c7] at h
    refine r_aload_n (x := (some h0)) C d_M_records_13 rfl rfl ?_
    replace h := g_ob h; obtain ⟨x4, e_x4, h⟩ := h
    refine r_getR C f_M_39 d_M_records_14 e_x4 ?_
    refine r_iload_n (x := p1) C d_M_records_17 rfl rfl ?_
    replace h := g_ob h; obtain ⟨a5, rfl, h⟩ := h
    replace h := g_ob h; obtain ⟨x6, e_x6, h⟩ := h
    refine r_iald C ak_100 d_M_records_18 e_x6 ?_
    refine r_goto C 23 d_M_records_19 (by decide) ?_
    cases h
    exact r_iret C hr d_M_records_23
theorem c_M_records (l : Launch) (E : gE) (base : Nat) (h0 : Nat) (p1 : Int32) (L : gL) (V : gV) {z : Int32 × gV} (h : D_M_records h0 p1 L V = some z) : g_Met l E base base y_M_records b_M_records 2 (some .int) rm_M_records [tR (some h0), tI p1] L V (some (tI z.1)) L z.2 :=
  r_enter R_M (by decide) rfl [tR (some h0), tI p1] [(0, tR (some h0)), (1, tI p1)] rfl (Nat.le_of_ble_eq_true rfl) (fun p e s m args below meth c C hr hnm => t_M_records_0 C hr h0 p1 V h)
def rm_M_record : Room := { frames := 1, cells := 0, slots := 0, locals := 21 }
def D_M_record_41 (L : gL)  (V : gV) : Option (Int64 × gV) :=
  some ((0 : Int64), V)
def D_M_record (h0 : Nat) (p1 : Int32) (p2 : Int32) (p3 : Int32) (L : gL) (V : gV) : Option (Int64 × gV) :=
  Option.bind (g_wr L V 4 h0 0 (tI (0 : Int32))) fun V1 =>
    Option.bind ((L).2 4 h0) fun n20 =>
    g_b2 (D_M_isStep h0 p1 L V1) fun r2 V3 =>
    (if r2 = 0 then
    D_M_record_41 L   V3
  else
    (if p2 < 0 then
    D_M_record_41 L   V3
  else
    Option.bind (g_rR L V3 4 h0 12) fun x4 =>
    Option.bind x4 fun a5 =>
    Option.bind (g_aI L V3 100 a5 p1) fun x6 =>
    (if x6 ≤ p2 then
    D_M_record_41 L   V3
  else
    (if p3 < 0 then
    D_M_record_41 L   V3
  else
    Option.bind (g_rR L V3 4 h0 9) fun x7 =>
    Option.bind x7 fun a8 =>
    Option.bind (g_aI L V3 100 a8 p1) fun x9 =>
    (if p3 < x9 then
    Option.bind (g_rR L V3 4 h0 15) fun x10 =>
    g_b2 (D_M_record4 p1 p2 L V3) fun r11 V12 =>
    Option.bind x10 fun a13 =>
    Option.bind (g_aJ L V12 101 a13 (((6 : Int32) * r11) + p3)) fun x14 =>
    some (x14, V12)
  else
    D_M_record_41 L   V3)))))
set_option maxHeartbeats 4000000 in
set_option maxRecDepth 100000 in
theorem t_M_record_41 (C : gC E base p s m args meth c b_M_record R_M 4) (hr : meth.sig.returnType = (some .long)) {z : Int64 × gV}  (V : gV) (h : D_M_record_41 L   V = some z) : vW E base base 4 p l e rm_M_record s m args below meth c 0 0 (g_MQ E base base below args s 0 0 L z.2 (some (tJ z.1))) L V 41 [] [] := by
  unfold D_M_record_41 at h
  refine r_lconst C (0 : Int64) d_M_record_41 (by decide) ?_
  refine r_goto C 60 d_M_record_42 (by decide) ?_
  cases h
  exact r_lret C hr d_M_record_60
set_option maxHeartbeats 4000000 in
set_option maxRecDepth 100000 in
theorem t_M_record_0 (C : gC E base p s m args meth c b_M_record R_M 4) (hr : meth.sig.returnType = (some .long)) {z : Int64 × gV} (h0 : Nat) (p1 : Int32) (p2 : Int32) (p3 : Int32) (V : gV) (h : D_M_record h0 p1 p2 p3 L V = some z) : vW E base base 4 p l e rm_M_record s m args below meth c 0 0 (g_MQ E base base below args s 0 0 L z.2 (some (tJ z.1))) L V 0 [(0, tR (some h0)), (1, tI p1), (2, tI p2), (3, tI p3)] [] := by
  unfold D_M_record at h
  refine r_aload_n (x := (some h0)) C d_M_record_0 rfl rfl ?_
  refine r_iconst C (0 : Int32) d_M_record_1 (by decide) ?_
  replace h := g_ob h; obtain ⟨V1, e_V1, h⟩ := h
  refine r_put C f_M_72 d_M_record_2 e_V1 (g_nI (0 : Int32)).1 (g_nI (0 : Int32)).2 ?_
  refine r_aload_n (x := (some h0)) C d_M_record_5 rfl rfl ?_
  refine r_iload_n (x := p1) C d_M_record_6 rfl rfl ?_
  replace h := g_ob h; obtain ⟨n20, e_n20, h⟩ := h
  replace h := g_o2 h; obtain ⟨r2, V3, e_r2, h⟩ := h
  refine r_callV (As := [tI p1]) C k_M_86 w_269 w_270 w_263 ⟨_, _, rfl⟩ (c_M_isStep l E base base h0 p1 L V1 e_r2) d_M_record_7 e_n20 rfl ⟨Nat.le_of_ble_eq_true rfl, Nat.le_of_ble_eq_true rfl⟩ (Nat.le_of_ble_eq_true rfl) (Nat.le_of_ble_eq_true rfl) (Nat.le_of_ble_eq_true rfl) rfl ?_
  refine r_if_eq C 41 d_M_record_10 (by decide) (fun c19 => ?_) (fun c19 => ?_)
  · rw [if_pos c19] at h
    refine r_lv [] rfl ?_
    exact t_M_record_41 C hr   V3 h
  · rw [if_neg c19] at h
    refine r_iload_n (x := p2) C d_M_record_13 rfl rfl ?_
    refine r_if_lt C 41 d_M_record_14 (by decide) (fun c18 => ?_) (fun c18 => ?_)
    · rw [if_pos c18] at h
      refine r_lv [] rfl ?_
      exact t_M_record_41 C hr   V3 h
    · rw [if_neg c18] at h
      refine r_iload_n (x := p2) C d_M_record_17 rfl rfl ?_
      refine r_aload_n (x := (some h0)) C d_M_record_18 rfl rfl ?_
      replace h := g_ob h; obtain ⟨x4, e_x4, h⟩ := h
      refine r_getR C f_M_39 d_M_record_19 e_x4 ?_
      refine r_iload_n (x := p1) C d_M_record_22 rfl rfl ?_
      replace h := g_ob h; obtain ⟨a5, rfl, h⟩ := h
      replace h := g_ob h; obtain ⟨x6, e_x6, h⟩ := h
      refine r_iald C ak_100 d_M_record_23 e_x6 ?_
      refine r_icmp_ge C 41 d_M_record_24 (by decide) (fun c17 => ?_) (fun c17 => ?_)
      · rw [if_pos c17] at h
        refine r_lv [] rfl ?_
        exact t_M_record_41 C hr   V3 h
      · rw [if_neg c17] at h
        refine r_iload_n (x := p3) C d_M_record_27 rfl rfl ?_
        refine r_if_lt C 41 d_M_record_28 (by decide) (fun c16 => ?_) (fun c16 => ?_)
        · rw [if_pos c16] at h
          refine r_lv [] rfl ?_
          exact t_M_record_41 C hr   V3 h
        · rw [if_neg c16] at h
          refine r_iload_n (x := p3) C d_M_record_31 rfl rfl ?_
          refine r_aload_n (x := (some h0)) C d_M_record_32 rfl rfl ?_
          replace h := g_ob h; obtain ⟨x7, e_x7, h⟩ := h
          refine r_getR C f_M_30 d_M_record_33 e_x7 ?_
          refine r_iload_n (x := p1) C d_M_record_36 rfl rfl ?_
          replace h := g_ob h; obtain ⟨a8, rfl, h⟩ := h
          replace h := g_ob h; obtain ⟨x9, e_x9, h⟩ := h
          refine r_iald C ak_100 d_M_record_37 e_x9 ?_
          refine r_icmp_lt C 45 d_M_record_38 (by decide) (fun c15 => ?_) (fun c15 => ?_)
          · rw [if_pos c15] at h
            refine r_aload_n (x := (some h0)) C d_M_record_45 rfl rfl ?_
            replace h := g_ob h; obtain ⟨x10, e_x10, h⟩ := h
            refine r_getR C f_M_48 d_M_record_46 e_x10 ?_
            refine r_bipush C (6 : Int32) d_M_record_49 (by decide) ?_
            refine r_iload_n (x := p1) C d_M_record_51 rfl rfl ?_
            refine r_iload_n (x := p2) C d_M_record_52 rfl rfl ?_
            replace h := g_o2 h; obtain ⟨r11, V12, e_r11, h⟩ := h
            refine r_callS (As := [tI p1, tI p2]) C k_M_93 w_273 w_271 (c_M_record4 l E base base p1 p2 L V3 e_r11) d_M_record_53 rfl ⟨Nat.le_of_ble_eq_true rfl, Nat.le_of_ble_eq_true rfl⟩ (Nat.le_of_ble_eq_true rfl) (Nat.le_of_ble_eq_true rfl) (Nat.le_of_ble_eq_true rfl) rfl ?_
            refine r_imul C d_M_record_56 ?_
            refine r_iload_n (x := p3) C d_M_record_57 rfl rfl ?_
            refine r_iadd C d_M_record_58 ?_
            replace h := g_ob h; obtain ⟨a13, rfl, h⟩ := h
            replace h := g_ob h; obtain ⟨x14, e_x14, h⟩ := h
            refine r_lald C ak_101 d_M_record_59 e_x14 ?_
            cases h
            exact r_lret C hr d_M_record_60
          · rw [if_neg c15] at h
            refine r_lv [] rfl ?_
            exact t_M_record_41 C hr   V3 h
theorem c_M_record (l : Launch) (E : gE) (base : Nat) (h0 : Nat) (p1 : Int32) (p2 : Int32) (p3 : Int32) (L : gL) (V : gV) {z : Int64 × gV} (h : D_M_record h0 p1 p2 p3 L V = some z) : g_Met l E base base y_M_record b_M_record 4 (some .long) rm_M_record [tR (some h0), tI p1, tI p2, tI p3] L V (some (tJ z.1)) L z.2 :=
  r_enter R_M (by decide) rfl [tR (some h0), tI p1, tI p2, tI p3] [(0, tR (some h0)), (1, tI p1), (2, tI p2), (3, tI p3)] rfl (Nat.le_of_ble_eq_true rfl) (fun p e s m args below meth c C hr hnm => t_M_record_0 C hr h0 p1 p2 p3 V h)
def rm_M_failed : Room := { frames := 1, cells := 0, slots := 0, locals := 21 }
def D_M_failed_27 (L : gL)  (V : gV) : Option (Int32 × gV) :=
  some ((-1 : Int32), V)
def D_M_failed (h0 : Nat) (p1 : Int32) (p2 : Int32) (L : gL) (V : gV) : Option (Int32 × gV) :=
  Option.bind (g_wr L V 4 h0 0 (tI (0 : Int32))) fun V1 =>
    Option.bind ((L).2 4 h0) fun n15 =>
    g_b2 (D_M_isStep h0 p1 L V1) fun r2 V3 =>
    (if r2 = 0 then
    D_M_failed_27 L   V3
  else
    (if p2 < 0 then
    D_M_failed_27 L   V3
  else
    Option.bind (g_rR L V3 4 h0 12) fun x4 =>
    Option.bind x4 fun a5 =>
    Option.bind (g_aI L V3 100 a5 p1) fun x6 =>
    (if p2 < x6 then
    Option.bind (g_rR L V3 4 h0 13) fun x7 =>
    g_b2 (D_M_record4 p1 p2 L V3) fun r8 V9 =>
    Option.bind x7 fun a10 =>
    Option.bind (g_aI L V9 100 a10 r8) fun x11 =>
    some (x11, V9)
  else
    D_M_failed_27 L   V3)))
set_option maxHeartbeats 4000000 in
set_option maxRecDepth 100000 in
theorem t_M_failed_27 (C : gC E base p s m args meth c b_M_failed R_M 3) (hr : meth.sig.returnType = (some .int)) {z : Int32 × gV}  (V : gV) (h : D_M_failed_27 L   V = some z) : vW E base base 3 p l e rm_M_failed s m args below meth c 0 0 (g_MQ E base base below args s 0 0 L z.2 (some (tI z.1))) L V 27 [] [] := by
  unfold D_M_failed_27 at h
  refine r_iconst C (-1 : Int32) d_M_failed_27 (by decide) ?_
  refine r_goto C 41 d_M_failed_28 (by decide) ?_
  cases h
  exact r_iret C hr d_M_failed_41
set_option maxHeartbeats 4000000 in
set_option maxRecDepth 100000 in
theorem t_M_failed_0 (C : gC E base p s m args meth c b_M_failed R_M 3) (hr : meth.sig.returnType = (some .int)) {z : Int32 × gV} (h0 : Nat) (p1 : Int32) (p2 : Int32) (V : gV) (h : D_M_failed h0 p1 p2 L V = some z) : vW E base base 3 p l e rm_M_failed s m args below meth c 0 0 (g_MQ E base base below args s 0 0 L z.2 (some (tI z.1))) L V 0 [(0, tR (some h0)), (1, tI p1), (2, tI p2)] [] := by
  unfold D_M_failed at h
  refine r_aload_n (x := (some h0)) C d_M_failed_0 rfl rfl ?_
  refine r_iconst C (0 : Int32) d_M_failed_1 (by decide) ?_
  replace h := g_ob h; obtain ⟨V1, e_V1, h⟩ := h
  refine r_put C f_M_72 d_M_failed_2 e_V1 (g_nI (0 : Int32)).1 (g_nI (0 : Int32)).2 ?_
  refine r_aload_n (x := (some h0)) C d_M_failed_5 rfl rfl ?_
  refine r_iload_n (x := p1) C d_M_failed_6 rfl rfl ?_
  replace h := g_ob h; obtain ⟨n15, e_n15, h⟩ := h
  replace h := g_o2 h; obtain ⟨r2, V3, e_r2, h⟩ := h
  refine r_callV (As := [tI p1]) C k_M_86 w_269 w_270 w_263 ⟨_, _, rfl⟩ (c_M_isStep l E base base h0 p1 L V1 e_r2) d_M_failed_7 e_n15 rfl ⟨Nat.le_of_ble_eq_true rfl, Nat.le_of_ble_eq_true rfl⟩ (Nat.le_of_ble_eq_true rfl) (Nat.le_of_ble_eq_true rfl) (Nat.le_of_ble_eq_true rfl) rfl ?_
  refine r_if_eq C 27 d_M_failed_10 (by decide) (fun c14 => ?_) (fun c14 => ?_)
  · rw [if_pos c14] at h
    refine r_lv [] rfl ?_
    exact t_M_failed_27 C hr   V3 h
  · rw [if_neg c14] at h
    refine r_iload_n (x := p2) C d_M_failed_13 rfl rfl ?_
    refine r_if_lt C 27 d_M_failed_14 (by decide) (fun c13 => ?_) (fun c13 => ?_)
    · rw [if_pos c13] at h
      refine r_lv [] rfl ?_
      exact t_M_failed_27 C hr   V3 h
    · rw [if_neg c13] at h
      refine r_iload_n (x := p2) C d_M_failed_17 rfl rfl ?_
      refine r_aload_n (x := (some h0)) C d_M_failed_18 rfl rfl ?_
      replace h := g_ob h; obtain ⟨x4, e_x4, h⟩ := h
      refine r_getR C f_M_39 d_M_failed_19 e_x4 ?_
      refine r_iload_n (x := p1) C d_M_failed_22 rfl rfl ?_
      replace h := g_ob h; obtain ⟨a5, rfl, h⟩ := h
      replace h := g_ob h; obtain ⟨x6, e_x6, h⟩ := h
      refine r_iald C ak_100 d_M_failed_23 e_x6 ?_
      refine r_icmp_lt C 31 d_M_failed_24 (by decide) (fun c12 => ?_) (fun c12 => ?_)
      · rw [if_pos c12] at h
        refine r_aload_n (x := (some h0)) C d_M_failed_31 rfl rfl ?_
        replace h := g_ob h; obtain ⟨x7, e_x7, h⟩ := h
        refine r_getR C f_M_42 d_M_failed_32 e_x7 ?_
        refine r_iload_n (x := p1) C d_M_failed_35 rfl rfl ?_
        refine r_iload_n (x := p2) C d_M_failed_36 rfl rfl ?_
        replace h := g_o2 h; obtain ⟨r8, V9, e_r8, h⟩ := h
        refine r_callS (As := [tI p1, tI p2]) C k_M_93 w_273 w_271 (c_M_record4 l E base base p1 p2 L V3 e_r8) d_M_failed_37 rfl ⟨Nat.le_of_ble_eq_true rfl, Nat.le_of_ble_eq_true rfl⟩ (Nat.le_of_ble_eq_true rfl) (Nat.le_of_ble_eq_true rfl) (Nat.le_of_ble_eq_true rfl) rfl ?_
        replace h := g_ob h; obtain ⟨a10, rfl, h⟩ := h
        replace h := g_ob h; obtain ⟨x11, e_x11, h⟩ := h
        refine r_iald C ak_100 d_M_failed_40 e_x11 ?_
        cases h
        exact r_iret C hr d_M_failed_41
      · rw [if_neg c12] at h
        refine r_lv [] rfl ?_
        exact t_M_failed_27 C hr   V3 h
theorem c_M_failed (l : Launch) (E : gE) (base : Nat) (h0 : Nat) (p1 : Int32) (p2 : Int32) (L : gL) (V : gV) {z : Int32 × gV} (h : D_M_failed h0 p1 p2 L V = some z) : g_Met l E base base y_M_failed b_M_failed 3 (some .int) rm_M_failed [tR (some h0), tI p1, tI p2] L V (some (tI z.1)) L z.2 :=
  r_enter R_M (by decide) rfl [tR (some h0), tI p1, tI p2] [(0, tR (some h0)), (1, tI p1), (2, tI p2)] rfl (Nat.le_of_ble_eq_true rfl) (fun p e s m args below meth c C hr hnm => t_M_failed_0 C hr h0 p1 p2 V h)
def rm_M_total : Room := { frames := 0, cells := 0, slots := 0, locals := 0 }
def D_M_total_14 (L : gL)  (V : gV) : Option (Int32 × gV) :=
  some ((-1 : Int32), V)
def D_M_total (h0 : Nat) (p1 : Int32) (L : gL) (V : gV) : Option (Int32 × gV) :=
  Option.bind (g_wr L V 4 h0 0 (tI (0 : Int32))) fun V1 =>
    (if p1 < 0 then
    D_M_total_14 L   V1
  else
    (if p1 ≤ (3 : Int32) then
    Option.bind (g_rR L V1 4 h0 20) fun x2 =>
    Option.bind x2 fun a3 =>
    Option.bind (g_aI L V1 100 a3 p1) fun x4 =>
    some (x4, V1)
  else
    D_M_total_14 L   V1))
set_option maxHeartbeats 4000000 in
set_option maxRecDepth 100000 in
theorem t_M_total_14 (C : gC E base p s m args meth c b_M_total R_M 2) (hr : meth.sig.returnType = (some .int)) {z : Int32 × gV}  (V : gV) (h : D_M_total_14 L   V = some z) : vW E base base 2 p l e rm_M_total s m args below meth c 0 0 (g_MQ E base base below args s 0 0 L z.2 (some (tI z.1))) L V 14 [] [] := by
  unfold D_M_total_14 at h
  refine r_iconst C (-1 : Int32) d_M_total_14 (by decide) ?_
  refine r_goto C 24 d_M_total_15 (by decide) ?_
  cases h
  exact r_iret C hr d_M_total_24
set_option maxHeartbeats 4000000 in
set_option maxRecDepth 100000 in
theorem t_M_total_0 (C : gC E base p s m args meth c b_M_total R_M 2) (hr : meth.sig.returnType = (some .int)) {z : Int32 × gV} (h0 : Nat) (p1 : Int32) (V : gV) (h : D_M_total h0 p1 L V = some z) : vW E base base 2 p l e rm_M_total s m args below meth c 0 0 (g_MQ E base base below args s 0 0 L z.2 (some (tI z.1))) L V 0 [(0, tR (some h0)), (1, tI p1)] [] := by
  unfold D_M_total at h
  refine r_aload_n (x := (some h0)) C d_M_total_0 rfl rfl ?_
  refine r_iconst C (0 : Int32) d_M_total_1 (by decide) ?_
  replace h := g_ob h; obtain ⟨V1, e_V1, h⟩ := h
  refine r_put C f_M_72 d_M_total_2 e_V1 (g_nI (0 : Int32)).1 (g_nI (0 : Int32)).2 ?_
  refine r_iload_n (x := p1) C d_M_total_5 rfl rfl ?_
  refine r_if_lt C 14 d_M_total_6 (by decide) (fun c6 => ?_) (fun c6 => ?_)
  · rw [if_pos c6] at h
    refine r_lv [] rfl ?_
    exact t_M_total_14 C hr   V1 h
  · rw [if_neg c6] at h
    refine r_iload_n (x := p1) C d_M_total_9 rfl rfl ?_
    refine r_iconst C (3 : Int32) d_M_total_10 (by decide) ?_
    refine r_icmp_le C 18 d_M_total_11 (by decide) (fun c5 => ?_) (fun c5 => ?_)
    · rw [if_pos c5] at h
      refine r_aload_n (x := (some h0)) C d_M_total_18 rfl rfl ?_
      replace h := g_ob h; obtain ⟨x2, e_x2, h⟩ := h
      refine r_getR C f_M_63 d_M_total_19 e_x2 ?_
      refine r_iload_n (x := p1) C d_M_total_22 rfl rfl ?_
      replace h := g_ob h; obtain ⟨a3, rfl, h⟩ := h
      replace h := g_ob h; obtain ⟨x4, e_x4, h⟩ := h
      refine r_iald C ak_100 d_M_total_23 e_x4 ?_
      cases h
      exact r_iret C hr d_M_total_24
    · rw [if_neg c5] at h
      refine r_lv [] rfl ?_
      exact t_M_total_14 C hr   V1 h
theorem c_M_total (l : Launch) (E : gE) (base : Nat) (h0 : Nat) (p1 : Int32) (L : gL) (V : gV) {z : Int32 × gV} (h : D_M_total h0 p1 L V = some z) : g_Met l E base base y_M_total b_M_total 2 (some .int) rm_M_total [tR (some h0), tI p1] L V (some (tI z.1)) L z.2 :=
  r_enter R_M (by decide) rfl [tR (some h0), tI p1] [(0, tR (some h0)), (1, tI p1)] rfl (Nat.le_of_ble_eq_true rfl) (fun p e s m args below meth c C hr hnm => t_M_total_0 C hr h0 p1 V h)
def rm_M_share : Room := { frames := 0, cells := 0, slots := 0, locals := 0 }
def D_M_share_13 (L : gL) (v0 : Nat) (s0 : Int32) (s1 : Nat) (V : gV) : Option (Int32 × gV) :=
  Option.bind (g_wr L V 4 s1 0 (tI s0)) fun V1 =>
    Option.bind (g_rI L V1 4 v0 24) fun x2 =>
    (if x2 = 0 then
    some ((0 : Int32), V1)
  else
    Option.bind (g_rI L V1 4 v0 23) fun x3 =>
    Option.bind (g_rI L V1 4 v0 24) fun x4 =>
    (if x4 = 0 then none else
    some ((x3 * (1000 : Int32)) / x4, V1)))
def D_M_share (h0 : Nat) (L : gL) (V : gV) : Option (Int32 × gV) :=
  Option.bind (g_rI L V 4 h0 24) fun x1 =>
    (if x1 = 0 then
    D_M_share_13 L  h0 (1 : Int32) h0 V
  else
    D_M_share_13 L  h0 (0 : Int32) h0 V)
set_option maxHeartbeats 4000000 in
set_option maxRecDepth 100000 in
theorem t_M_share_13 (C : gC E base p s m args meth c b_M_share R_M 1) (hr : meth.sig.returnType = (some .int)) {z : Int32 × gV} (v0 : Nat) (s0 : Int32) (s1 : Nat) (V : gV) (h : D_M_share_13 L  v0 s0 s1 V = some z) : vW E base base 1 p l e rm_M_share s m args below meth c 0 0 (g_MQ E base base below args s 0 0 L z.2 (some (tI z.1))) L V 13 [(0, tR (some v0))] [tI s0, tR (some s1)] := by
  unfold D_M_share_13 at h
  replace h := g_ob h; obtain ⟨V1, e_V1, h⟩ := h
  refine r_put C f_M_72 d_M_share_13 e_V1 (g_nI s0).1 (g_nI s0).2 ?_
  refine r_aload_n (x := (some v0)) C d_M_share_16 rfl rfl ?_
  replace h := g_ob h; obtain ⟨x2, e_x2, h⟩ := h
  refine r_getI C f_M_149 d_M_share_17 e_x2 ?_
  refine r_if_ne C 27 d_M_share_20 (by decide) (fun c6 => ?_) (fun c6 => ?_)
  · rw [if_neg c6] at h
    refine r_aload_n (x := (some v0)) C d_M_share_27 rfl rfl ?_
    replace h := g_ob h; obtain ⟨x3, e_x3, h⟩ := h
    refine r_getI C f_M_133 d_M_share_28 e_x3 ?_
    refine r_sipush C (1000 : Int32) d_M_share_31 (by decide) ?_
    refine r_imul C d_M_share_34 ?_
    refine r_aload_n (x := (some v0)) C d_M_share_35 rfl rfl ?_
    replace h := g_ob h; obtain ⟨x4, e_x4, h⟩ := h
    refine r_getI C f_M_149 d_M_share_36 e_x4 ?_
    by_cases c5 : x4 = 0
    · rw [if_pos c5] at h; cases h
    rw [if_neg c5] at h
    refine r_idiv C d_M_share_39 c5 ?_
    cases h
    exact r_iret C hr d_M_share_40
  · rw [if_pos c6] at h
    refine r_iconst C (0 : Int32) d_M_share_23 (by decide) ?_
    refine r_goto C 40 d_M_share_24 (by decide) ?_
    cases h
    exact r_iret C hr d_M_share_40
set_option maxHeartbeats 4000000 in
set_option maxRecDepth 100000 in
theorem t_M_share_0 (C : gC E base p s m args meth c b_M_share R_M 1) (hr : meth.sig.returnType = (some .int)) {z : Int32 × gV} (h0 : Nat) (V : gV) (h : D_M_share h0 L V = some z) : vW E base base 1 p l e rm_M_share s m args below meth c 0 0 (g_MQ E base base below args s 0 0 L z.2 (some (tI z.1))) L V 0 [(0, tR (some h0))] [] := by
  unfold D_M_share at h
  refine r_aload_n (x := (some h0)) C d_M_share_0 rfl rfl ?_
  refine r_aload_n (x := (some h0)) C d_M_share_1 rfl rfl ?_
  replace h := g_ob h; obtain ⟨x1, e_x1, h⟩ := h
  refine r_getI C f_M_149 d_M_share_2 e_x1 ?_
  refine r_if_ne C 12 d_M_share_5 (by decide) (fun c2 => ?_) (fun c2 => ?_)
  · rw [if_neg c2] at h
    refine r_iconst C (0 : Int32) d_M_share_12 (by decide) ?_
    exact t_M_share_13 C hr  h0 (0 : Int32) h0 V h
  · rw [if_pos c2] at h
    refine r_iconst C (1 : Int32) d_M_share_8 (by decide) ?_
    refine r_goto C 13 d_M_share_9 (by decide) ?_
    exact t_M_share_13 C hr  h0 (1 : Int32) h0 V h
theorem c_M_share (l : Launch) (E : gE) (base : Nat) (h0 : Nat) (L : gL) (V : gV) {z : Int32 × gV} (h : D_M_share h0 L V = some z) : g_Met l E base base y_M_share b_M_share 1 (some .int) rm_M_share [tR (some h0)] L V (some (tI z.1)) L z.2 :=
  r_enter R_M (by decide) rfl [tR (some h0)] [(0, tR (some h0))] rfl (Nat.le_of_ble_eq_true rfl) (fun p e s m args below meth c C hr hnm => t_M_share_0 C hr h0 V h)
end GC3
