/-! METHODS (by program): GC1 -/
section GC1
variable {E : gE} {base bA : Nat} {p : Program} {l : Launch} {e : Env} {s : State} {m : MethodId} {args : Array Value} {below : List Frame} {meth : Method} {c : Code} {L : gL}
def rm_N_init : Room := { frames := 1, cells := 2, slots := 12, locals := 20 }
def D_N_init (h0 : Nat) (L : gL) (V : gV) : Option (Unit × gL × gV) :=
  g_bn (g_new L V 102 6 (fun _ => tI 0)) fun L1 V2 =>
    Option.bind (g_wr L1 V2 0 h0 0 (tR (some L.1))) fun V3 =>
    g_bn (g_new L1 V3 101 6 (fun _ => tJ 0)) fun L4 V5 =>
    Option.bind (g_wr L4 V5 0 h0 1 (tR (some L1.1))) fun V6 =>
    Option.bind (g_wr L4 V6 0 h0 2 (tI (-1 : Int32))) fun V7 =>
    Option.bind (g_wr L4 V7 0 h0 3 (tJ (0 : Int64))) fun V8 =>
    Option.bind (g_wr L4 V8 0 h0 4 (tJ (0 : Int64))) fun V9 =>
    some ((), L4, V9)
set_option maxHeartbeats 4000000 in
set_option maxRecDepth 100000 in
theorem t_N_init_0 (C : gC E base p s m args meth c b_N_init R_N 1) (hr : meth.sig.returnType = none) (hn : meth.name = "<init>") {z : Unit × gL × gV} (h0 : Nat) (V : gV) (h : D_N_init h0 L V = some z) : vW E base base 1 p l e rm_N_init s m args below meth c 0 0 (g_MQ E base base below args s 2 12 z.2.1 z.2.2 none) L V 0 [(0, tR (some h0))] [] := by
  unfold D_N_init at h
  refine r_aload_n (x := (some h0)) C d_N_init_0 rfl rfl ?_
  refine r_objInit C w_0 w_1 w_2 d_N_init_1 (Nat.le_of_ble_eq_true rfl) (Nat.le_of_ble_eq_true rfl) ?_
  refine r_aload_n (x := (some h0)) C d_N_init_4 rfl rfl ?_
  refine r_bipush C (6 : Int32) d_N_init_5 (by decide) ?_
  replace h := g_obn h; obtain ⟨L1, V2, e_L1, h⟩ := h
  refine r_newa (at_ := .boolean) (ty := .boolean) C rfl ak_102 (fun _ q => by cases q) w_3 d_N_init_7 (by decide) (by decide) (by decide) rfl e_L1 (Nat.le_of_ble_eq_true rfl) (Nat.le_of_ble_eq_true rfl) ?_
  replace h := g_ob h; obtain ⟨V3, e_V3, h⟩ := h
  refine r_putF C f_N_9 d_N_init_9 hn ⟨_, rfl, rfl⟩ e_V3 (g_nA (some L.1)).1 (g_nA (some L.1)).2 ?_
  refine r_aload_n (x := (some h0)) C d_N_init_12 rfl rfl ?_
  refine r_bipush C (6 : Int32) d_N_init_13 (by decide) ?_
  replace h := g_obn h; obtain ⟨L4, V5, e_L4, h⟩ := h
  refine r_newa (at_ := .long) (ty := .long) C rfl ak_101 (fun _ q => by cases q) w_5 d_N_init_15 (by decide) (by decide) (by decide) rfl e_L4 (Nat.le_of_ble_eq_true rfl) (Nat.le_of_ble_eq_true rfl) ?_
  replace h := g_ob h; obtain ⟨V6, e_V6, h⟩ := h
  refine r_putF C f_N_15 d_N_init_17 hn ⟨_, rfl, rfl⟩ e_V6 (g_nA (some L1.1)).1 (g_nA (some L1.1)).2 ?_
  refine r_aload_n (x := (some h0)) C d_N_init_20 rfl rfl ?_
  refine r_iconst C (-1 : Int32) d_N_init_21 (by decide) ?_
  replace h := g_ob h; obtain ⟨V7, e_V7, h⟩ := h
  refine r_put C f_N_19 d_N_init_22 e_V7 (g_nI (-1 : Int32)).1 (g_nI (-1 : Int32)).2 ?_
  refine r_aload_n (x := (some h0)) C d_N_init_25 rfl rfl ?_
  refine r_lconst C (0 : Int64) d_N_init_26 (by decide) ?_
  replace h := g_ob h; obtain ⟨V8, e_V8, h⟩ := h
  refine r_put C f_N_23 d_N_init_27 e_V8 (g_nJ (0 : Int64)).1 (g_nJ (0 : Int64)).2 ?_
  refine r_aload_n (x := (some h0)) C d_N_init_30 rfl rfl ?_
  refine r_lconst C (0 : Int64) d_N_init_31 (by decide) ?_
  replace h := g_ob h; obtain ⟨V9, e_V9, h⟩ := h
  refine r_put C f_N_27 d_N_init_32 e_V9 (g_nJ (0 : Int64)).1 (g_nJ (0 : Int64)).2 ?_
  cases h
  refine r_wid (k := 2) (n := 12) (Nat.le_of_ble_eq_true rfl) (Nat.le_of_ble_eq_true rfl) ?_
  exact r_vret C hr d_N_init_35
theorem c_N_init (l : Launch) (E : gE) (base : Nat) (h0 : Nat) (L : gL) (V : gV) {z : Unit × gL × gV} (h : D_N_init h0 L V = some z) : g_Met l E base base y_N_init b_N_init 1 none rm_N_init [tR (some h0)] L V none z.2.1 z.2.2 :=
  r_enter R_N (by decide) rfl [tR (some h0)] [(0, tR (some h0))] rfl (Nat.le_of_ble_eq_true rfl) (fun p e s m args below meth c C hr hnm => t_N_init_0 C hr hnm h0 V h)
def rm_N_hasFailed : Room := { frames := 0, cells := 0, slots := 0, locals := 0 }
def D_N_hasFailed (h0 : Nat) (L : gL) (V : gV) : Option (Int32 × gV) :=
  Option.bind (g_rI L V 0 h0 2) fun x1 =>
    (if x1 = (-1 : Int32) then
    some ((0 : Int32), V)
  else
    some ((1 : Int32), V))
set_option maxHeartbeats 4000000 in
set_option maxRecDepth 100000 in
theorem t_N_hasFailed_0 (C : gC E bA p s m args meth c b_N_hasFailed R_N 1) (hr : meth.sig.returnType = (some .boolean)) {z : Int32 × gV} (h0 : Nat) (V : gV) (h : D_N_hasFailed h0 L V = some z) : vW E base bA 1 p l e rm_N_hasFailed s m args below meth c 0 0 (g_MQ E base bA below args s 0 0 L z.2 (some (tI z.1))) L V 0 [(0, tR (some h0))] [] := by
  unfold D_N_hasFailed at h
  refine r_aload_n (x := (some h0)) C d_N_hasFailed_0 rfl rfl ?_
  replace h := g_ob h; obtain ⟨x1, e_x1, h⟩ := h
  refine r_getI C f_N_19 d_N_hasFailed_1 e_x1 ?_
  refine r_iconst C (-1 : Int32) d_N_hasFailed_4 (by decide) ?_
  refine r_icmp_eq C 12 d_N_hasFailed_5 (by decide) (fun c2 => ?_) (fun c2 => ?_)
  · rw [if_pos c2] at h
    refine r_iconst C (0 : Int32) d_N_hasFailed_12 (by decide) ?_
    cases h
    exact r_zret C hr d_N_hasFailed_13 (Or.inl rfl)
  · rw [if_neg c2] at h
    refine r_iconst C (1 : Int32) d_N_hasFailed_8 (by decide) ?_
    refine r_goto C 13 d_N_hasFailed_9 (by decide) ?_
    cases h
    exact r_zret C hr d_N_hasFailed_13 (Or.inr rfl)
theorem c_N_hasFailed (l : Launch) (E : gE) (base bA : Nat) (h0 : Nat) (L : gL) (V : gV) {z : Int32 × gV} (h : D_N_hasFailed h0 L V = some z) : g_Met l E base bA y_N_hasFailed b_N_hasFailed 1 (some .boolean) rm_N_hasFailed [tR (some h0)] L V (some (tI z.1)) L z.2 :=
  r_enter R_N (by decide) rfl [tR (some h0)] [(0, tR (some h0))] rfl (Nat.le_of_ble_eq_true rfl) (fun p e s m args below meth c C hr hnm => t_N_hasFailed_0 C hr h0 V h)
def rm_N_partOfOutput : Room := { frames := 0, cells := 0, slots := 0, locals := 0 }
def D_N_partOfOutput (h0 : Nat) (p1 : Int32) (L : gL) (V : gV) : Option (Int64 × gV) :=
  (if p1 = 0 then
    Option.bind (g_rJ L V 0 h0 3) fun x2 =>
    some (x2, V)
  else
    Option.bind (g_rJ L V 0 h0 4) fun x1 =>
    some (x1, V))
set_option maxHeartbeats 4000000 in
set_option maxRecDepth 100000 in
theorem t_N_partOfOutput_0 (C : gC E bA p s m args meth c b_N_partOfOutput R_N 2) (hr : meth.sig.returnType = (some .long)) {z : Int64 × gV} (h0 : Nat) (p1 : Int32) (V : gV) (h : D_N_partOfOutput h0 p1 L V = some z) : vW E base bA 2 p l e rm_N_partOfOutput s m args below meth c 0 0 (g_MQ E base bA below args s 0 0 L z.2 (some (tJ z.1))) L V 0 [(0, tR (some h0)), (1, tI p1)] [] := by
  unfold D_N_partOfOutput at h
  refine r_iload_n (x := p1) C d_N_partOfOutput_0 rfl rfl ?_
  refine r_if_ne C 11 d_N_partOfOutput_1 (by decide) (fun c3 => ?_) (fun c3 => ?_)
  · rw [if_neg c3] at h
    refine r_aload_n (x := (some h0)) C d_N_partOfOutput_11 rfl rfl ?_
    replace h := g_ob h; obtain ⟨x1, e_x1, h⟩ := h
    refine r_getJ C f_N_27 d_N_partOfOutput_12 e_x1 ?_
    cases h
    exact r_lret C hr d_N_partOfOutput_15
  · rw [if_pos c3] at h
    refine r_aload_n (x := (some h0)) C d_N_partOfOutput_4 rfl rfl ?_
    replace h := g_ob h; obtain ⟨x2, e_x2, h⟩ := h
    refine r_getJ C f_N_23 d_N_partOfOutput_5 e_x2 ?_
    refine r_goto C 15 d_N_partOfOutput_8 (by decide) ?_
    cases h
    exact r_lret C hr d_N_partOfOutput_15
theorem c_N_partOfOutput (l : Launch) (E : gE) (base bA : Nat) (h0 : Nat) (p1 : Int32) (L : gL) (V : gV) {z : Int64 × gV} (h : D_N_partOfOutput h0 p1 L V = some z) : g_Met l E base bA y_N_partOfOutput b_N_partOfOutput 2 (some .long) rm_N_partOfOutput [tR (some h0), tI p1] L V (some (tJ z.1)) L z.2 :=
  r_enter R_N (by decide) rfl [tR (some h0), tI p1] [(0, tR (some h0)), (1, tI p1)] rfl (Nat.le_of_ble_eq_true rfl) (fun p e s m args below meth c C hr hnm => t_N_partOfOutput_0 C hr h0 p1 V h)
def rm_N_differsAt : Room := { frames := 0, cells := 0, slots := 0, locals := 0 }
def D_N_differsAt_21 (L : gL)  (V : gV) : Option (Int32 × gV) :=
  some ((1 : Int32), V)
def D_N_differsAt (h0 : Nat) (p1 : Int32) (p2 : Int32) (p3 : Int64) (L : gL) (V : gV) : Option (Int32 × gV) :=
  Option.bind (g_rR L V 0 h0 0) fun x1 =>
    Option.bind x1 fun a2 =>
    Option.bind (g_aI L V 102 a2 p1) fun x3 =>
    (if x3 = p2 then
    Option.bind (g_rR L V 0 h0 1) fun x4 =>
    Option.bind x4 fun a5 =>
    Option.bind (g_aJ L V 101 a5 p1) fun x6 =>
    (if (lg_cmp x6 p3) = 0 then
    some ((0 : Int32), V)
  else
    D_N_differsAt_21 L   V)
  else
    D_N_differsAt_21 L   V)
set_option maxHeartbeats 4000000 in
set_option maxRecDepth 100000 in
theorem t_N_differsAt_21 (C : gC E bA p s m args meth c b_N_differsAt R_N 5) (hr : meth.sig.returnType = (some .boolean)) {z : Int32 × gV}  (V : gV) (h : D_N_differsAt_21 L   V = some z) : vW E base bA 5 p l e rm_N_differsAt s m args below meth c 0 0 (g_MQ E base bA below args s 0 0 L z.2 (some (tI z.1))) L V 21 [] [] := by
  unfold D_N_differsAt_21 at h
  refine r_iconst C (1 : Int32) d_N_differsAt_21 (by decide) ?_
  refine r_goto C 26 d_N_differsAt_22 (by decide) ?_
  cases h
  exact r_zret C hr d_N_differsAt_26 (Or.inr rfl)
set_option maxHeartbeats 4000000 in
set_option maxRecDepth 100000 in
theorem t_N_differsAt_0 (C : gC E bA p s m args meth c b_N_differsAt R_N 5) (hr : meth.sig.returnType = (some .boolean)) {z : Int32 × gV} (h0 : Nat) (p1 : Int32) (p2 : Int32) (p3 : Int64) (V : gV) (h : D_N_differsAt h0 p1 p2 p3 L V = some z) : vW E base bA 5 p l e rm_N_differsAt s m args below meth c 0 0 (g_MQ E base bA below args s 0 0 L z.2 (some (tI z.1))) L V 0 [(0, tR (some h0)), (1, tI p1), (2, tI p2), (3, tJ p3)] [] := by
  unfold D_N_differsAt at h
  refine r_aload_n (x := (some h0)) C d_N_differsAt_0 rfl rfl ?_
  replace h := g_ob h; obtain ⟨x1, e_x1, h⟩ := h
  refine r_getR C f_N_9 d_N_differsAt_1 e_x1 ?_
  refine r_iload_n (x := p1) C d_N_differsAt_4 rfl rfl ?_
  replace h := g_ob h; obtain ⟨a2, rfl, h⟩ := h
  replace h := g_ob h; obtain ⟨x3, e_x3, h⟩ := h
  refine r_zald C ak_102 d_N_differsAt_5 e_x3 ?_
  refine r_iload_n (x := p2) C d_N_differsAt_6 rfl rfl ?_
  refine r_icmp_ne C 21 d_N_differsAt_7 (by decide) (fun c8 => ?_) (fun c8 => ?_)
  · rw [if_neg c8] at h
    refine r_lv [] rfl ?_
    exact t_N_differsAt_21 C hr   V h
  · rw [if_pos c8] at h
    refine r_aload_n (x := (some h0)) C d_N_differsAt_10 rfl rfl ?_
    replace h := g_ob h; obtain ⟨x4, e_x4, h⟩ := h
    refine r_getR C f_N_15 d_N_differsAt_11 e_x4 ?_
    refine r_iload_n (x := p1) C d_N_differsAt_14 rfl rfl ?_
    replace h := g_ob h; obtain ⟨a5, rfl, h⟩ := h
    replace h := g_ob h; obtain ⟨x6, e_x6, h⟩ := h
    refine r_lald C ak_101 d_N_differsAt_15 e_x6 ?_
    refine r_lload_n (x := p3) C d_N_differsAt_16 rfl rfl ?_
    refine r_lcmp C d_N_differsAt_17 ?_
    refine r_if_eq C 25 d_N_differsAt_18 (by decide) (fun c7 => ?_) (fun c7 => ?_)
    · rw [if_pos c7] at h
      refine r_iconst C (0 : Int32) d_N_differsAt_25 (by decide) ?_
      cases h
      exact r_zret C hr d_N_differsAt_26 (Or.inl rfl)
    · rw [if_neg c7] at h
      refine r_lv [] rfl ?_
      exact t_N_differsAt_21 C hr   V h
theorem c_N_differsAt (l : Launch) (E : gE) (base bA : Nat) (h0 : Nat) (p1 : Int32) (p2 : Int32) (p3 : Int64) (L : gL) (V : gV) {z : Int32 × gV} (h : D_N_differsAt h0 p1 p2 p3 L V = some z) : g_Met l E base bA y_N_differsAt b_N_differsAt 5 (some .boolean) rm_N_differsAt [tR (some h0), tI p1, tI p2, tJ p3] L V (some (tI z.1)) L z.2 :=
  r_enter R_N (by decide) rfl [tR (some h0), tI p1, tI p2, tJ p3] [(0, tR (some h0)), (1, tI p1), (2, tI p2), (3, tJ p3)] rfl (Nat.le_of_ble_eq_true rfl) (fun p e s m args below meth c C hr hnm => t_N_differsAt_0 C hr h0 p1 p2 p3 V h)
def rm_N_firstDifference : Room := { frames := 1, cells := 0, slots := 0, locals := 24 }
def D_N_firstDifference_2 (L : gL) : Nat → Nat → Nat → Int32 → Int32 → gV → Option (Int32 × gV)
  | 0, _, _, _, _, _ => none
  | n + 1, v0, v1, v2, v3, V =>
  (if v2 ≤ v3 then
    some ((-1 : Int32), V)
  else
    Option.bind (g_rR L V 0 v1 0) fun x1 =>
    Option.bind x1 fun a2 =>
    Option.bind (g_aI L V 102 a2 v3) fun x3 =>
    Option.bind (g_rR L V 0 v1 1) fun x4 =>
    Option.bind x4 fun a5 =>
    Option.bind (g_aJ L V 101 a5 v3) fun x6 =>
    Option.bind ((L).2 0 v0) fun n10 =>
    g_b2 (D_N_differsAt v0 v3 x3 x6 L V) fun r7 V8 =>
    (if r7 = 0 then
    D_N_firstDifference_2 L  n v0 v1 v2 (v3 + (1 : Int32)) V8
  else
    some (v3, V8)))
def D_N_firstDifference (h0 : Nat) (p1 : Nat) (p2 : Int32) (L : gL) (V : gV) : Option (Int32 × gV) :=
  D_N_firstDifference_2 L  1000 h0 p1 p2 (0 : Int32) V
set_option maxHeartbeats 4000000 in
set_option maxRecDepth 100000 in
theorem t_N_firstDifference_2 (C : gC E bA p s m args meth c b_N_firstDifference R_N 4) (hr : meth.sig.returnType = (some .int)) {z : Int32 × gV} : ∀ (n : Nat) (v0 : Nat) (v1 : Nat) (v2 : Int32) (v3 : Int32) (V : gV), D_N_firstDifference_2 L  n v0 v1 v2 v3 V = some z → vW E base bA 4 p l e rm_N_firstDifference s m args below meth c 0 0 (g_MQ E base bA below args s 0 0 L z.2 (some (tI z.1))) L V 2 [(0, tR (some v0)), (1, tR (some v1)), (2, tI v2), (3, tI v3)] [] := by
  intro n
  induction n with
  | zero =>
    intro v0 v1 v2 v3 V h
    rw [D_N_firstDifference_2] at h
    cases h
  | succ n ih =>
    intro v0 v1 v2 v3 V h
    rw [D_N_firstDifference_2] at h
    refine r_iload_n (x := v3) C d_N_firstDifference_2 rfl rfl ?_
    refine r_iload_n (x := v2) C d_N_firstDifference_3 rfl rfl ?_
    refine r_icmp_ge C 35 d_N_firstDifference_4 (by decide) (fun c11 => ?_) (fun c11 => ?_)
    · rw [if_pos c11] at h
      refine r_iconst C (-1 : Int32) d_N_firstDifference_35 (by decide) ?_
      cases h
      exact r_iret C hr d_N_firstDifference_36
    · rw [if_neg c11] at h
      refine r_aload_n (x := (some v0)) C d_N_firstDifference_7 rfl rfl ?_
      refine r_iload_n (x := v3) C d_N_firstDifference_8 rfl rfl ?_
      refine r_aload_n (x := (some v1)) C d_N_firstDifference_9 rfl rfl ?_
      replace h := g_ob h; obtain ⟨x1, e_x1, h⟩ := h
      refine r_getR C f_N_9 d_N_firstDifference_10 e_x1 ?_
      refine r_iload_n (x := v3) C d_N_firstDifference_13 rfl rfl ?_
      replace h := g_ob h; obtain ⟨a2, rfl, h⟩ := h
      replace h := g_ob h; obtain ⟨x3, e_x3, h⟩ := h
      refine r_zald C ak_102 d_N_firstDifference_14 e_x3 ?_
      refine r_aload_n (x := (some v1)) C d_N_firstDifference_15 rfl rfl ?_
      replace h := g_ob h; obtain ⟨x4, e_x4, h⟩ := h
      refine r_getR C f_N_15 d_N_firstDifference_16 e_x4 ?_
      refine r_iload_n (x := v3) C d_N_firstDifference_19 rfl rfl ?_
      replace h := g_ob h; obtain ⟨a5, rfl, h⟩ := h
      replace h := g_ob h; obtain ⟨x6, e_x6, h⟩ := h
      refine r_lald C ak_101 d_N_firstDifference_20 e_x6 ?_
      replace h := g_ob h; obtain ⟨n10, e_n10, h⟩ := h
      replace h := g_o2 h; obtain ⟨r7, V8, e_r7, h⟩ := h
      refine r_callV (As := [tI v3, tI x3, tJ x6]) C k_N_30 w_13 w_14 w_10 ⟨_, _, rfl⟩ (c_N_differsAt l E base bA v0 v3 x3 x6 L V e_r7) d_N_firstDifference_21 e_n10 rfl ⟨Nat.le_of_ble_eq_true rfl, Nat.le_of_ble_eq_true rfl⟩ (Nat.le_of_ble_eq_true rfl) (Nat.le_of_ble_eq_true rfl) (Nat.le_of_ble_eq_true rfl) rfl ?_
      refine r_if_eq C 29 d_N_firstDifference_24 (by decide) (fun c9 => ?_) (fun c9 => ?_)
      · rw [if_pos c9] at h
        refine r_iinc (x := v3) (v := v3 + (1 : Int32)) (lv' := [(3, tI (v3 + (1 : Int32))), (0, tR (some v0)), (1, tR (some v1)), (2, tI v2)]) C d_N_firstDifference_29 rfl rfl (by decide) rfl ?_
        refine r_goto C 2 d_N_firstDifference_32 (by decide) ?_
        refine r_lv [1, 2, 3, 0] rfl ?_
        exact ih v0 v1 v2 (v3 + (1 : Int32)) V8 h
      · rw [if_neg c9] at h
        refine r_iload_n (x := v3) C d_N_firstDifference_27 rfl rfl ?_
        cases h
        exact r_iret C hr d_N_firstDifference_28
set_option maxHeartbeats 4000000 in
set_option maxRecDepth 100000 in
theorem t_N_firstDifference_0 (C : gC E bA p s m args meth c b_N_firstDifference R_N 4) (hr : meth.sig.returnType = (some .int)) {z : Int32 × gV} (h0 : Nat) (p1 : Nat) (p2 : Int32) (V : gV) (h : D_N_firstDifference h0 p1 p2 L V = some z) : vW E base bA 4 p l e rm_N_firstDifference s m args below meth c 0 0 (g_MQ E base bA below args s 0 0 L z.2 (some (tI z.1))) L V 0 [(0, tR (some h0)), (1, tR (some p1)), (2, tI p2)] [] := by
  unfold D_N_firstDifference at h
  refine r_iconst C (0 : Int32) d_N_firstDifference_0 (by decide) ?_
  refine r_istore_n (lv' := [(3, tI (0 : Int32)), (0, tR (some h0)), (1, tR (some p1)), (2, tI p2)]) C d_N_firstDifference_1 rfl (by decide) rfl ?_
  refine r_lv [1, 2, 3, 0] rfl ?_
  exact t_N_firstDifference_2 C hr  1000 h0 p1 p2 (0 : Int32) V h
theorem c_N_firstDifference (l : Launch) (E : gE) (base bA : Nat) (h0 : Nat) (p1 : Nat) (p2 : Int32) (L : gL) (V : gV) {z : Int32 × gV} (h : D_N_firstDifference h0 p1 p2 L V = some z) : g_Met l E base bA y_N_firstDifference b_N_firstDifference 4 (some .int) rm_N_firstDifference [tR (some h0), tR (some p1), tI p2] L V (some (tI z.1)) L z.2 :=
  r_enter R_N (by decide) rfl [tR (some h0), tR (some p1), tI p2] [(0, tR (some h0)), (1, tR (some p1)), (2, tI p2)] rfl (Nat.le_of_ble_eq_true rfl) (fun p e s m args below meth c C hr hnm => t_N_firstDifference_0 C hr h0 p1 p2 V h)
def rm_N_firstMissing : Room := { frames := 0, cells := 0, slots := 0, locals := 0 }
def D_N_firstMissing_2 (L : gL) : Nat → Nat → Int32 → Int32 → gV → Option (Int32 × gV)
  | 0, _, _, _, _ => none
  | n + 1, v0, v1, v2, V =>
  (if v1 ≤ v2 then
    some ((-1 : Int32), V)
  else
    Option.bind (g_rR L V 0 v0 0) fun x1 =>
    Option.bind x1 fun a2 =>
    Option.bind (g_aI L V 102 a2 v2) fun x3 =>
    (if x3 = 0 then
    some (v2, V)
  else
    D_N_firstMissing_2 L  n v0 v1 (v2 + (1 : Int32)) V))
def D_N_firstMissing (h0 : Nat) (p1 : Int32) (L : gL) (V : gV) : Option (Int32 × gV) :=
  D_N_firstMissing_2 L  1000 h0 p1 (0 : Int32) V
set_option maxHeartbeats 4000000 in
set_option maxRecDepth 100000 in
theorem t_N_firstMissing_2 (C : gC E bA p s m args meth c b_N_firstMissing R_N 3) (hr : meth.sig.returnType = (some .int)) {z : Int32 × gV} : ∀ (n : Nat) (v0 : Nat) (v1 : Int32) (v2 : Int32) (V : gV), D_N_firstMissing_2 L  n v0 v1 v2 V = some z → vW E base bA 3 p l e rm_N_firstMissing s m args below meth c 0 0 (g_MQ E base bA below args s 0 0 L z.2 (some (tI z.1))) L V 2 [(0, tR (some v0)), (1, tI v1), (2, tI v2)] [] := by
  intro n
  induction n with
  | zero =>
    intro v0 v1 v2 V h
    rw [D_N_firstMissing_2] at h
    cases h
  | succ n ih =>
    intro v0 v1 v2 V h
    rw [D_N_firstMissing_2] at h
    refine r_iload_n (x := v2) C d_N_firstMissing_2 rfl rfl ?_
    refine r_iload_n (x := v1) C d_N_firstMissing_3 rfl rfl ?_
    refine r_icmp_ge C 24 d_N_firstMissing_4 (by decide) (fun c5 => ?_) (fun c5 => ?_)
    · rw [if_pos c5] at h
      refine r_iconst C (-1 : Int32) d_N_firstMissing_24 (by decide) ?_
      cases h
      exact r_iret C hr d_N_firstMissing_25
    · rw [if_neg c5] at h
      refine r_aload_n (x := (some v0)) C d_N_firstMissing_7 rfl rfl ?_
      replace h := g_ob h; obtain ⟨x1, e_x1, h⟩ := h
      refine r_getR C f_N_9 d_N_firstMissing_8 e_x1 ?_
      refine r_iload_n (x := v2) C d_N_firstMissing_11 rfl rfl ?_
      replace h := g_ob h; obtain ⟨a2, rfl, h⟩ := h
      replace h := g_ob h; obtain ⟨x3, e_x3, h⟩ := h
      refine r_zald C ak_102 d_N_firstMissing_12 e_x3 ?_
      refine r_if_ne C 18 d_N_firstMissing_13 (by decide) (fun c4 => ?_) (fun c4 => ?_)
      · rw [if_neg c4] at h
        refine r_iinc (x := v2) (v := v2 + (1 : Int32)) (lv' := [(2, tI (v2 + (1 : Int32))), (0, tR (some v0)), (1, tI v1)]) C d_N_firstMissing_18 rfl rfl (by decide) rfl ?_
        refine r_goto C 2 d_N_firstMissing_21 (by decide) ?_
        refine r_lv [1, 2, 0] rfl ?_
        exact ih v0 v1 (v2 + (1 : Int32)) V h
      · rw [if_pos c4] at h
        refine r_iload_n (x := v2) C d_N_firstMissing_16 rfl rfl ?_
        cases h
        exact r_iret C hr d_N_firstMissing_17
set_option maxHeartbeats 4000000 in
set_option maxRecDepth 100000 in
theorem t_N_firstMissing_0 (C : gC E bA p s m args meth c b_N_firstMissing R_N 3) (hr : meth.sig.returnType = (some .int)) {z : Int32 × gV} (h0 : Nat) (p1 : Int32) (V : gV) (h : D_N_firstMissing h0 p1 L V = some z) : vW E base bA 3 p l e rm_N_firstMissing s m args below meth c 0 0 (g_MQ E base bA below args s 0 0 L z.2 (some (tI z.1))) L V 0 [(0, tR (some h0)), (1, tI p1)] [] := by
  unfold D_N_firstMissing at h
  refine r_iconst C (0 : Int32) d_N_firstMissing_0 (by decide) ?_
  refine r_istore_n (lv' := [(2, tI (0 : Int32)), (0, tR (some h0)), (1, tI p1)]) C d_N_firstMissing_1 rfl (by decide) rfl ?_
  refine r_lv [1, 2, 0] rfl ?_
  exact t_N_firstMissing_2 C hr  1000 h0 p1 (0 : Int32) V h
theorem c_N_firstMissing (l : Launch) (E : gE) (base bA : Nat) (h0 : Nat) (p1 : Int32) (L : gL) (V : gV) {z : Int32 × gV} (h : D_N_firstMissing h0 p1 L V = some z) : g_Met l E base bA y_N_firstMissing b_N_firstMissing 3 (some .int) rm_N_firstMissing [tR (some h0), tI p1] L V (some (tI z.1)) L z.2 :=
  r_enter R_N (by decide) rfl [tR (some h0), tI p1] [(0, tR (some h0)), (1, tI p1)] rfl (Nat.le_of_ble_eq_true rfl) (fun p e s m args below meth c C hr hnm => t_N_firstMissing_0 C hr h0 p1 V h)
def rm_S_init : Room := { frames := 1, cells := 0, slots := 0, locals := 20 }
def D_S_init (h0 : Nat) (p1 : Int64) (L : gL) (V : gV) : Option (Unit × gV) :=
  Option.bind (g_wr L V 1 h0 0 (tI (1 : Int32))) fun V1 =>
    Option.bind (g_wr L V1 1 h0 2 (tI (0 : Int32))) fun V2 =>
    Option.bind (g_wr L V2 1 h0 1 (tJ p1)) fun V3 =>
    some ((), V3)
set_option maxHeartbeats 4000000 in
set_option maxRecDepth 100000 in
theorem t_S_init_0 (C : gC E base p s m args meth c b_S_init R_S 3) (hr : meth.sig.returnType = none) (hn : meth.name = "<init>") {z : Unit × gV} (h0 : Nat) (p1 : Int64) (V : gV) (h : D_S_init h0 p1 L V = some z) : vW E base base 3 p l e rm_S_init s m args below meth c 0 0 (g_MQ E base base below args s 0 0 L z.2 none) L V 0 [(0, tR (some h0)), (1, tJ p1)] [] := by
  unfold D_S_init at h
  refine r_aload_n (x := (some h0)) C d_S_init_0 rfl rfl ?_
  refine r_objInit C w_15 w_1 w_2 d_S_init_1 (Nat.le_of_ble_eq_true rfl) (Nat.le_of_ble_eq_true rfl) ?_
  refine r_aload_n (x := (some h0)) C d_S_init_4 rfl rfl ?_
  refine r_iconst C (1 : Int32) d_S_init_5 (by decide) ?_
  replace h := g_ob h; obtain ⟨V1, e_V1, h⟩ := h
  refine r_put C f_S_7 d_S_init_6 e_V1 (g_nZ (x := (1 : Int32)) (Or.inr rfl)).1 (g_nZ (x := (1 : Int32)) (Or.inr rfl)).2 ?_
  refine r_aload_n (x := (some h0)) C d_S_init_9 rfl rfl ?_
  refine r_iconst C (0 : Int32) d_S_init_10 (by decide) ?_
  replace h := g_ob h; obtain ⟨V2, e_V2, h⟩ := h
  refine r_put C f_S_13 d_S_init_11 e_V2 (g_nI (0 : Int32)).1 (g_nI (0 : Int32)).2 ?_
  refine r_aload_n (x := (some h0)) C d_S_init_14 rfl rfl ?_
  refine r_lload_n (x := p1) C d_S_init_15 rfl rfl ?_
  replace h := g_ob h; obtain ⟨V3, e_V3, h⟩ := h
  refine r_put C f_S_17 d_S_init_16 e_V3 (g_nJ p1).1 (g_nJ p1).2 ?_
  cases h
  exact r_vret C hr d_S_init_19
theorem c_S_init (l : Launch) (E : gE) (base : Nat) (h0 : Nat) (p1 : Int64) (L : gL) (V : gV) {z : Unit × gV} (h : D_S_init h0 p1 L V = some z) : g_Met l E base base y_S_init b_S_init 3 none rm_S_init [tR (some h0), tJ p1] L V none L z.2 :=
  r_enter R_S (by decide) rfl [tR (some h0), tJ p1] [(0, tR (some h0)), (1, tJ p1)] rfl (Nat.le_of_ble_eq_true rfl) (fun p e s m args below meth c C hr hnm => t_S_init_0 C hr hnm h0 p1 V h)
def rm_T_init : Room := { frames := 2, cells := 14, slots := 78, locals := 40 }
def D_T_init (h0 : Nat) (p1 : Int64) (p3 : Int64) (L : gL) (V : gV) : Option (Unit × gL × gV) :=
  g_bn (g_new L V 100 6 (fun _ => tI 0)) fun L1 V2 =>
    Option.bind (g_wr L1 V2 2 h0 2 (tR (some L.1))) fun V3 =>
    Option.bind (g_wr L1 V3 2 h0 3 (tI (0 : Int32))) fun V4 =>
    g_bn (g_new L1 V4 105 4 (fun _ => tR none)) fun L5 V6 =>
    Option.bind (g_wr L5 V6 2 h0 4 (tR (some L1.1))) fun V7 =>
    Option.bind (g_wr L5 V7 2 h0 5 (tI (0 : Int32))) fun V8 =>
    Option.bind (g_wr L5 V8 2 h0 6 (tI (0 : Int32))) fun V9 =>
    Option.bind (g_wr L5 V9 2 h0 7 (tI (0 : Int32))) fun V10 =>
    Option.bind (g_wr L5 V10 2 h0 8 (tI (0 : Int32))) fun V11 =>
    Option.bind (g_wr L5 V11 2 h0 9 (tI (0 : Int32))) fun V12 =>
    Option.bind (g_wr L5 V12 2 h0 10 (tI (-1 : Int32))) fun V13 =>
    Option.bind (g_wr L5 V13 2 h0 0 (tJ p1)) fun V14 =>
    Option.bind (g_wr L5 V14 2 h0 1 (tJ p3)) fun V15 =>
    Option.bind (g_rR L5 V15 2 h0 4) fun x16 =>
    g_bn (g_new L5 V15 0 5 df_N) fun L17 V18 =>
    g_b3 (D_N_init L5.1 L17 V18) fun r19 L21 V20 =>
    Option.bind x16 fun a22 =>
    Option.bind ((L21).2 0 L5.1) fun n51 =>
    Option.bind (g_wa L21 V20 105 a22 (0 : Int32) (tR (some L5.1))) fun V23 =>
    Option.bind (g_rR L21 V23 2 h0 4) fun x24 =>
    g_bn (g_new L21 V23 0 5 df_N) fun L25 V26 =>
    g_b3 (D_N_init L21.1 L25 V26) fun r27 L29 V28 =>
    Option.bind x24 fun a30 =>
    Option.bind ((L29).2 0 L21.1) fun n50 =>
    Option.bind (g_wa L29 V28 105 a30 (1 : Int32) (tR (some L21.1))) fun V31 =>
    Option.bind (g_rR L29 V31 2 h0 4) fun x32 =>
    g_bn (g_new L29 V31 0 5 df_N) fun L33 V34 =>
    g_b3 (D_N_init L29.1 L33 V34) fun r35 L37 V36 =>
    Option.bind x32 fun a38 =>
    Option.bind ((L37).2 0 L29.1) fun n49 =>
    Option.bind (g_wa L37 V36 105 a38 (2 : Int32) (tR (some L29.1))) fun V39 =>
    Option.bind (g_rR L37 V39 2 h0 4) fun x40 =>
    g_bn (g_new L37 V39 0 5 df_N) fun L41 V42 =>
    g_b3 (D_N_init L37.1 L41 V42) fun r43 L45 V44 =>
    Option.bind x40 fun a46 =>
    Option.bind ((L45).2 0 L37.1) fun n48 =>
    Option.bind (g_wa L45 V44 105 a46 (3 : Int32) (tR (some L37.1))) fun V47 =>
    some ((), L45, V47)
set_option maxHeartbeats 4000000 in
set_option maxRecDepth 100000 in
theorem t_T_init_0 (C : gC E base p s m args meth c b_T_init R_T 6) (hr : meth.sig.returnType = none) (hn : meth.name = "<init>") {z : Unit × gL × gV} (h0 : Nat) (p1 : Int64) (p3 : Int64) (V : gV) (h : D_T_init h0 p1 p3 L V = some z) : vW E base base 6 p l e rm_T_init s m args below meth c 0 0 (g_MQ E base base below args s 14 78 z.2.1 z.2.2 none) L V 0 [(0, tR (some h0)), (1, tJ p1), (3, tJ p3)] [] := by
  unfold D_T_init at h
  refine r_aload_n (x := (some h0)) C d_T_init_0 rfl rfl ?_
  refine r_objInit C w_19 w_1 w_2 d_T_init_1 (Nat.le_of_ble_eq_true rfl) (Nat.le_of_ble_eq_true rfl) ?_
  refine r_aload_n (x := (some h0)) C d_T_init_4 rfl rfl ?_
  refine r_bipush C (6 : Int32) d_T_init_5 (by decide) ?_
  replace h := g_obn h; obtain ⟨L1, V2, e_L1, h⟩ := h
  refine r_newa (at_ := .int) (ty := .int) C rfl ak_100 (fun _ q => by cases q) w_20 d_T_init_7 (by decide) (by decide) (by decide) rfl e_L1 (Nat.le_of_ble_eq_true rfl) (Nat.le_of_ble_eq_true rfl) ?_
  replace h := g_ob h; obtain ⟨V3, e_V3, h⟩ := h
  refine r_putF C f_T_9 d_T_init_9 hn ⟨_, rfl, rfl⟩ e_V3 (g_nA (some L.1)).1 (g_nA (some L.1)).2 ?_
  refine r_aload_n (x := (some h0)) C d_T_init_12 rfl rfl ?_
  refine r_iconst C (0 : Int32) d_T_init_13 (by decide) ?_
  replace h := g_ob h; obtain ⟨V4, e_V4, h⟩ := h
  refine r_put C f_T_15 d_T_init_14 e_V4 (g_nI (0 : Int32)).1 (g_nI (0 : Int32)).2 ?_
  refine r_aload_n (x := (some h0)) C d_T_init_17 rfl rfl ?_
  refine r_iconst C (4 : Int32) d_T_init_18 (by decide) ?_
  replace h := g_obn h; obtain ⟨L5, V6, e_L5, h⟩ := h
  refine r_anew C ak_105 w_23 (by decide) d_T_init_19 (by decide) (by decide) (by decide) e_L5 (Nat.le_of_ble_eq_true rfl) (Nat.le_of_ble_eq_true rfl) ?_
  replace h := g_ob h; obtain ⟨V7, e_V7, h⟩ := h
  refine r_putF C f_T_21 d_T_init_22 hn ⟨_, rfl, rfl⟩ e_V7 (g_nA (some L1.1)).1 (g_nA (some L1.1)).2 ?_
  refine r_aload_n (x := (some h0)) C d_T_init_25 rfl rfl ?_
  refine r_iconst C (0 : Int32) d_T_init_26 (by decide) ?_
  replace h := g_ob h; obtain ⟨V8, e_V8, h⟩ := h
  refine r_put C f_T_25 d_T_init_27 e_V8 (g_nI (0 : Int32)).1 (g_nI (0 : Int32)).2 ?_
  refine r_aload_n (x := (some h0)) C d_T_init_30 rfl rfl ?_
  refine r_iconst C (0 : Int32) d_T_init_31 (by decide) ?_
  replace h := g_ob h; obtain ⟨V9, e_V9, h⟩ := h
  refine r_put C f_T_28 d_T_init_32 e_V9 (g_nZ (x := (0 : Int32)) (Or.inl rfl)).1 (g_nZ (x := (0 : Int32)) (Or.inl rfl)).2 ?_
  refine r_aload_n (x := (some h0)) C d_T_init_35 rfl rfl ?_
  refine r_iconst C (0 : Int32) d_T_init_36 (by decide) ?_
  replace h := g_ob h; obtain ⟨V10, e_V10, h⟩ := h
  refine r_put C f_T_32 d_T_init_37 e_V10 (g_nZ (x := (0 : Int32)) (Or.inl rfl)).1 (g_nZ (x := (0 : Int32)) (Or.inl rfl)).2 ?_
  refine r_aload_n (x := (some h0)) C d_T_init_40 rfl rfl ?_
  refine r_iconst C (0 : Int32) d_T_init_41 (by decide) ?_
  replace h := g_ob h; obtain ⟨V11, e_V11, h⟩ := h
  refine r_put C f_T_35 d_T_init_42 e_V11 (g_nZ (x := (0 : Int32)) (Or.inl rfl)).1 (g_nZ (x := (0 : Int32)) (Or.inl rfl)).2 ?_
  refine r_aload_n (x := (some h0)) C d_T_init_45 rfl rfl ?_
  refine r_iconst C (0 : Int32) d_T_init_46 (by decide) ?_
  replace h := g_ob h; obtain ⟨V12, e_V12, h⟩ := h
  refine r_put C f_T_38 d_T_init_47 e_V12 (g_nI (0 : Int32)).1 (g_nI (0 : Int32)).2 ?_
  refine r_aload_n (x := (some h0)) C d_T_init_50 rfl rfl ?_
  refine r_iconst C (-1 : Int32) d_T_init_51 (by decide) ?_
  replace h := g_ob h; obtain ⟨V13, e_V13, h⟩ := h
  refine r_put C f_T_41 d_T_init_52 e_V13 (g_nI (-1 : Int32)).1 (g_nI (-1 : Int32)).2 ?_
  refine r_aload_n (x := (some h0)) C d_T_init_55 rfl rfl ?_
  refine r_lload_n (x := p1) C d_T_init_56 rfl rfl ?_
  replace h := g_ob h; obtain ⟨V14, e_V14, h⟩ := h
  refine r_putF C f_T_44 d_T_init_57 hn ⟨_, rfl, rfl⟩ e_V14 (g_nJ p1).1 (g_nJ p1).2 ?_
  refine r_aload_n (x := (some h0)) C d_T_init_60 rfl rfl ?_
  refine r_lload_n (x := p3) C d_T_init_61 rfl rfl ?_
  replace h := g_ob h; obtain ⟨V15, e_V15, h⟩ := h
  refine r_putF C f_T_48 d_T_init_62 hn ⟨_, rfl, rfl⟩ e_V15 (g_nJ p3).1 (g_nJ p3).2 ?_
  refine r_iconst C (0 : Int32) d_T_init_65 (by decide) ?_
  refine r_istore (lv' := [(5, tI (0 : Int32)), (0, tR (some h0)), (1, tJ p1), (3, tJ p3)]) C d_T_init_66 (by decide) rfl ?_
  refine r_iload (x := (0 : Int32)) C d_T_init_68 rfl ?_
  refine r_iconst C (3 : Int32) d_T_init_70 (by decide) ?_
  refine r_icmp_gt C 94 d_T_init_71 (by decide) (fun q => absurd q (by decide)) (fun _ => ?_)
  refine r_aload_n (x := (some h0)) C d_T_init_74 rfl rfl ?_
  replace h := g_ob h; obtain ⟨x16, e_x16, h⟩ := h
  refine r_getR C f_T_21 d_T_init_75 e_x16 ?_
  refine r_iload (x := (0 : Int32)) C d_T_init_78 rfl ?_
  replace h := g_obn h; obtain ⟨L17, V18, e_L17, h⟩ := h
  refine r_new C n_T_19 d_T_init_80 e_L17 (Nat.le_of_ble_eq_true rfl) (Nat.le_of_ble_eq_true rfl) ?_
  refine r_dup C d_T_init_83 rfl ?_
  replace h := g_o3 h; obtain ⟨r19, L21, V20, e_r19, h⟩ := h
  refine r_callIN (As := []) C rfl w_12 (by decide +kernel) rfl w_35 w_34 (c_N_init l E base L5.1 L17 V18 e_r19) d_T_init_84 rfl ⟨Nat.le_of_ble_eq_true rfl, Nat.le_of_ble_eq_true rfl⟩ (Nat.le_of_ble_eq_true rfl) (Nat.le_of_ble_eq_true rfl) (Nat.le_of_ble_eq_true rfl) rfl ?_
  replace h := g_ob h; obtain ⟨a22, rfl, h⟩ := h
  replace h := g_ob h; obtain ⟨n51, e_n51, h⟩ := h
  replace h := g_ob h; obtain ⟨V23, e_V23, h⟩ := h
  refine r_aast C ak_105 ⟨_, _, rfl⟩ d_T_init_87 e_n51 e_V23 ?_
  refine r_iinc (x := (0 : Int32)) (v := (1 : Int32)) (lv' := [(5, tI (1 : Int32)), (0, tR (some h0)), (1, tJ p1), (3, tJ p3)]) C d_T_init_88 rfl (by decide) (by decide) rfl ?_
  refine r_goto C 68 d_T_init_91 (by decide) ?_
  refine r_iload (x := (1 : Int32)) C d_T_init_68 rfl ?_
  refine r_iconst C (3 : Int32) d_T_init_70 (by decide) ?_
  refine r_icmp_gt C 94 d_T_init_71 (by decide) (fun q => absurd q (by decide)) (fun _ => ?_)
  refine r_aload_n (x := (some h0)) C d_T_init_74 rfl rfl ?_
  replace h := g_ob h; obtain ⟨x24, e_x24, h⟩ := h
  refine r_getR C f_T_21 d_T_init_75 e_x24 ?_
  refine r_iload (x := (1 : Int32)) C d_T_init_78 rfl ?_
  replace h := g_obn h; obtain ⟨L25, V26, e_L25, h⟩ := h
  refine r_new C n_T_19 d_T_init_80 e_L25 (Nat.le_of_ble_eq_true rfl) (Nat.le_of_ble_eq_true rfl) ?_
  refine r_dup C d_T_init_83 rfl ?_
  replace h := g_o3 h; obtain ⟨r27, L29, V28, e_r27, h⟩ := h
  refine r_callIN (As := []) C rfl w_12 (by decide +kernel) rfl w_35 w_34 (c_N_init l E base L21.1 L25 V26 e_r27) d_T_init_84 rfl ⟨Nat.le_of_ble_eq_true rfl, Nat.le_of_ble_eq_true rfl⟩ (Nat.le_of_ble_eq_true rfl) (Nat.le_of_ble_eq_true rfl) (Nat.le_of_ble_eq_true rfl) rfl ?_
  replace h := g_ob h; obtain ⟨a30, rfl, h⟩ := h
  replace h := g_ob h; obtain ⟨n50, e_n50, h⟩ := h
  replace h := g_ob h; obtain ⟨V31, e_V31, h⟩ := h
  refine r_aast C ak_105 ⟨_, _, rfl⟩ d_T_init_87 e_n50 e_V31 ?_
  refine r_iinc (x := (1 : Int32)) (v := (2 : Int32)) (lv' := [(5, tI (2 : Int32)), (0, tR (some h0)), (1, tJ p1), (3, tJ p3)]) C d_T_init_88 rfl (by decide) (by decide) rfl ?_
  refine r_goto C 68 d_T_init_91 (by decide) ?_
  refine r_iload (x := (2 : Int32)) C d_T_init_68 rfl ?_
  refine r_iconst C (3 : Int32) d_T_init_70 (by decide) ?_
  refine r_icmp_gt C 94 d_T_init_71 (by decide) (fun q => absurd q (by decide)) (fun _ => ?_)
  refine r_aload_n (x := (some h0)) C d_T_init_74 rfl rfl ?_
  replace h := g_ob h; obtain ⟨x32, e_x32, h⟩ := h
  refine r_getR C f_T_21 d_T_init_75 e_x32 ?_
  refine r_iload (x := (2 : Int32)) C d_T_init_78 rfl ?_
  replace h := g_obn h; obtain ⟨L33, V34, e_L33, h⟩ := h
  refine r_new C n_T_19 d_T_init_80 e_L33 (Nat.le_of_ble_eq_true rfl) (Nat.le_of_ble_eq_true rfl) ?_
  refine r_dup C d_T_init_83 rfl ?_
  replace h := g_o3 h; obtain ⟨r35, L37, V36, e_r35, h⟩ := h
  refine r_callIN (As := []) C rfl w_12 (by decide +kernel) rfl w_35 w_34 (c_N_init l E base L29.1 L33 V34 e_r35) d_T_init_84 rfl ⟨Nat.le_of_ble_eq_true rfl, Nat.le_of_ble_eq_true rfl⟩ (Nat.le_of_ble_eq_true rfl) (Nat.le_of_ble_eq_true rfl) (Nat.le_of_ble_eq_true rfl) rfl ?_
  replace h := g_ob h; obtain ⟨a38, rfl, h⟩ := h
  replace h := g_ob h; obtain ⟨n49, e_n49, h⟩ := h
  replace h := g_ob h; obtain ⟨V39, e_V39, h⟩ := h
  refine r_aast C ak_105 ⟨_, _, rfl⟩ d_T_init_87 e_n49 e_V39 ?_
  refine r_iinc (x := (2 : Int32)) (v := (3 : Int32)) (lv' := [(5, tI (3 : Int32)), (0, tR (some h0)), (1, tJ p1), (3, tJ p3)]) C d_T_init_88 rfl (by decide) (by decide) rfl ?_
  refine r_goto C 68 d_T_init_91 (by decide) ?_
  refine r_iload (x := (3 : Int32)) C d_T_init_68 rfl ?_
  refine r_iconst C (3 : Int32) d_T_init_70 (by decide) ?_
  refine r_icmp_gt C 94 d_T_init_71 (by decide) (fun q => absurd q (by decide)) (fun _ => ?_)
  refine r_aload_n (x := (some h0)) C d_T_init_74 rfl rfl ?_
  replace h := g_ob h; obtain ⟨x40, e_x40, h⟩ := h
  refine r_getR C f_T_21 d_T_init_75 e_x40 ?_
  refine r_iload (x := (3 : Int32)) C d_T_init_78 rfl ?_
  replace h := g_obn h; obtain ⟨L41, V42, e_L41, h⟩ := h
  refine r_new C n_T_19 d_T_init_80 e_L41 (Nat.le_of_ble_eq_true rfl) (Nat.le_of_ble_eq_true rfl) ?_
  refine r_dup C d_T_init_83 rfl ?_
  replace h := g_o3 h; obtain ⟨r43, L45, V44, e_r43, h⟩ := h
  refine r_callIN (As := []) C rfl w_12 (by decide +kernel) rfl w_35 w_34 (c_N_init l E base L37.1 L41 V42 e_r43) d_T_init_84 rfl ⟨Nat.le_of_ble_eq_true rfl, Nat.le_of_ble_eq_true rfl⟩ (Nat.le_of_ble_eq_true rfl) (Nat.le_of_ble_eq_true rfl) (Nat.le_of_ble_eq_true rfl) rfl ?_
  replace h := g_ob h; obtain ⟨a46, rfl, h⟩ := h
  replace h := g_ob h; obtain ⟨n48, e_n48, h⟩ := h
  replace h := g_ob h; obtain ⟨V47, e_V47, h⟩ := h
  refine r_aast C ak_105 ⟨_, _, rfl⟩ d_T_init_87 e_n48 e_V47 ?_
  refine r_iinc (x := (3 : Int32)) (v := (4 : Int32)) (lv' := [(5, tI (4 : Int32)), (0, tR (some h0)), (1, tJ p1), (3, tJ p3)]) C d_T_init_88 rfl (by decide) (by decide) rfl ?_
  refine r_goto C 68 d_T_init_91 (by decide) ?_
  refine r_iload (x := (4 : Int32)) C d_T_init_68 rfl ?_
  refine r_iconst C (3 : Int32) d_T_init_70 (by decide) ?_
  refine r_icmp_gt C 94 d_T_init_71 (by decide) (fun _ => ?_) (fun q => absurd q (by decide))
  cases h
  refine r_wid (k := 14) (n := 78) (Nat.le_of_ble_eq_true rfl) (Nat.le_of_ble_eq_true rfl) ?_
  exact r_vret C hr d_T_init_94
theorem c_T_init (l : Launch) (E : gE) (base : Nat) (h0 : Nat) (p1 : Int64) (p3 : Int64) (L : gL) (V : gV) {z : Unit × gL × gV} (h : D_T_init h0 p1 p3 L V = some z) : g_Met l E base base y_T_init b_T_init 6 none rm_T_init [tR (some h0), tJ p1, tJ p3] L V none z.2.1 z.2.2 :=
  r_enter R_T (by decide) rfl [tR (some h0), tJ p1, tJ p3] [(0, tR (some h0)), (1, tJ p1), (3, tJ p3)] rfl (Nat.le_of_ble_eq_true rfl) (fun p e s m args below meth c C hr hnm => t_T_init_0 C hr hnm h0 p1 p3 V h)
def rm_T_entryAt : Room := { frames := 0, cells := 0, slots := 0, locals := 0 }
def D_T_entryAt (h0 : Nat) (p1 : Int32) (L : gL) (V : gV) : Option (Option Nat × gV) :=
  (if p1 < 0 then
    some (none, V)
  else
    Option.bind (g_rI L V 2 h0 5) fun x1 =>
    (if x1 ≤ p1 then
    some (none, V)
  else
    Option.bind (g_rR L V 2 h0 4) fun x2 =>
    Option.bind x2 fun a3 =>
    Option.bind (g_aR L V 105 a3 p1) fun x4 =>
    some (x4, V)))
set_option maxHeartbeats 4000000 in
set_option maxRecDepth 100000 in
theorem t_T_entryAt_0 (C : gC E bA p s m args meth c b_T_entryAt R_T 2) (hr : meth.sig.returnType = (some (.object "EarlyCut$Entry"))) {z : Option Nat × gV} (h0 : Nat) (p1 : Int32) (V : gV) (h : D_T_entryAt h0 p1 L V = some z) : vW E base bA 2 p l e rm_T_entryAt s m args below meth c 0 0 (g_MQ E base bA below args s 0 0 L z.2 (some (tR z.1))) L V 0 [(0, tR (some h0)), (1, tI p1)] [] := by
  unfold D_T_entryAt at h
  refine r_iload_n (x := p1) C d_T_entryAt_0 rfl rfl ?_
  refine r_if_lt C 21 d_T_entryAt_1 (by decide) (fun c6 => ?_) (fun c6 => ?_)
  · rw [if_pos c6] at h
    refine r_null C d_T_entryAt_21 ?_
    cases h
    exact r_aret C hr d_T_entryAt_22
  · rw [if_neg c6] at h
    refine r_iload_n (x := p1) C d_T_entryAt_4 rfl rfl ?_
    refine r_aload_n (x := (some h0)) C d_T_entryAt_5 rfl rfl ?_
    replace h := g_ob h; obtain ⟨x1, e_x1, h⟩ := h
    refine r_getI C f_T_25 d_T_entryAt_6 e_x1 ?_
    refine r_icmp_ge C 21 d_T_entryAt_9 (by decide) (fun c5 => ?_) (fun c5 => ?_)
    · rw [if_pos c5] at h
      refine r_null C d_T_entryAt_21 ?_
      cases h
      exact r_aret C hr d_T_entryAt_22
    · rw [if_neg c5] at h
      refine r_aload_n (x := (some h0)) C d_T_entryAt_12 rfl rfl ?_
      replace h := g_ob h; obtain ⟨x2, e_x2, h⟩ := h
      refine r_getR C f_T_21 d_T_entryAt_13 e_x2 ?_
      refine r_iload_n (x := p1) C d_T_entryAt_16 rfl rfl ?_
      replace h := g_ob h; obtain ⟨a3, rfl, h⟩ := h
      replace h := g_ob h; obtain ⟨x4, e_x4, h⟩ := h
      refine r_aald C ak_105 rfl d_T_entryAt_17 e_x4 ?_
      refine r_goto C 22 d_T_entryAt_18 (by decide) ?_
      cases h
      exact r_aret C hr d_T_entryAt_22
theorem c_T_entryAt (l : Launch) (E : gE) (base bA : Nat) (h0 : Nat) (p1 : Int32) (L : gL) (V : gV) {z : Option Nat × gV} (h : D_T_entryAt h0 p1 L V = some z) : g_Met l E base bA y_T_entryAt b_T_entryAt 2 (some (.object "EarlyCut$Entry")) rm_T_entryAt [tR (some h0), tI p1] L V (some (tR z.1)) L z.2 :=
  r_enter R_T (by decide) rfl [tR (some h0), tI p1] [(0, tR (some h0)), (1, tI p1)] rfl (Nat.le_of_ble_eq_true rfl) (fun p e s m args below meth c C hr hnm => t_T_entryAt_0 C hr h0 p1 V h)
def rm_T_spareEntry : Room := { frames := 0, cells := 0, slots := 0, locals := 0 }
def D_T_spareEntry (h0 : Nat) (L : gL) (V : gV) : Option (Option Nat × gV) :=
  Option.bind (g_rR L V 2 h0 4) fun x1 =>
    Option.bind x1 fun a2 =>
    Option.bind (g_aR L V 105 a2 (3 : Int32)) fun x3 =>
    some (x3, V)
set_option maxHeartbeats 4000000 in
set_option maxRecDepth 100000 in
theorem t_T_spareEntry_0 (C : gC E bA p s m args meth c b_T_spareEntry R_T 1) (hr : meth.sig.returnType = (some (.object "EarlyCut$Entry"))) {z : Option Nat × gV} (h0 : Nat) (V : gV) (h : D_T_spareEntry h0 L V = some z) : vW E base bA 1 p l e rm_T_spareEntry s m args below meth c 0 0 (g_MQ E base bA below args s 0 0 L z.2 (some (tR z.1))) L V 0 [(0, tR (some h0))] [] := by
  unfold D_T_spareEntry at h
  refine r_aload_n (x := (some h0)) C d_T_spareEntry_0 rfl rfl ?_
  replace h := g_ob h; obtain ⟨x1, e_x1, h⟩ := h
  refine r_getR C f_T_21 d_T_spareEntry_1 e_x1 ?_
  refine r_iconst C (3 : Int32) d_T_spareEntry_4 (by decide) ?_
  replace h := g_ob h; obtain ⟨a2, rfl, h⟩ := h
  replace h := g_ob h; obtain ⟨x3, e_x3, h⟩ := h
  refine r_aald C ak_105 rfl d_T_spareEntry_5 e_x3 ?_
  cases h
  exact r_aret C hr d_T_spareEntry_6
theorem c_T_spareEntry (l : Launch) (E : gE) (base bA : Nat) (h0 : Nat) (L : gL) (V : gV) {z : Option Nat × gV} (h : D_T_spareEntry h0 L V = some z) : g_Met l E base bA y_T_spareEntry b_T_spareEntry 1 (some (.object "EarlyCut$Entry")) rm_T_spareEntry [tR (some h0)] L V (some (tR z.1)) L z.2 :=
  r_enter R_T (by decide) rfl [tR (some h0)] [(0, tR (some h0))] rfl (Nat.le_of_ble_eq_true rfl) (fun p e s m args below meth c C hr hnm => t_T_spareEntry_0 C hr h0 V h)
def rm_T_hasRead : Room := { frames := 0, cells := 0, slots := 0, locals := 0 }
def D_T_hasRead_2 (L : gL) : Nat → Nat → Int32 → Int32 → gV → Option (Int32 × gV)
  | 0, _, _, _, _ => none
  | n + 1, v0, v1, v2, V =>
  Option.bind (g_rI L V 2 v0 3) fun x1 =>
    (if x1 ≤ v2 then
    some ((0 : Int32), V)
  else
    Option.bind (g_rR L V 2 v0 2) fun x2 =>
    Option.bind x2 fun a3 =>
    Option.bind (g_aI L V 100 a3 v2) fun x4 =>
    (if x4 = v1 then
    some ((1 : Int32), V)
  else
    D_T_hasRead_2 L  n v0 v1 (v2 + (1 : Int32)) V))
def D_T_hasRead (h0 : Nat) (p1 : Int32) (L : gL) (V : gV) : Option (Int32 × gV) :=
  D_T_hasRead_2 L  1000 h0 p1 (0 : Int32) V
set_option maxHeartbeats 4000000 in
set_option maxRecDepth 100000 in
theorem t_T_hasRead_2 (C : gC E bA p s m args meth c b_T_hasRead R_T 3) (hr : meth.sig.returnType = (some .boolean)) {z : Int32 × gV} : ∀ (n : Nat) (v0 : Nat) (v1 : Int32) (v2 : Int32) (V : gV), D_T_hasRead_2 L  n v0 v1 v2 V = some z → vW E base bA 3 p l e rm_T_hasRead s m args below meth c 0 0 (g_MQ E base bA below args s 0 0 L z.2 (some (tI z.1))) L V 2 [(0, tR (some v0)), (1, tI v1), (2, tI v2)] [] := by
  intro n
  induction n with
  | zero =>
    intro v0 v1 v2 V h
    rw [D_T_hasRead_2] at h
    cases h
  | succ n ih =>
    intro v0 v1 v2 V h
    rw [D_T_hasRead_2] at h
    refine r_iload_n (x := v2) C d_T_hasRead_2 rfl rfl ?_
    refine r_aload_n (x := (some v0)) C d_T_hasRead_3 rfl rfl ?_
    replace h := g_ob h; obtain ⟨x1, e_x1, h⟩ := h
    refine r_getI C f_T_15 d_T_hasRead_4 e_x1 ?_
    refine r_icmp_ge C 28 d_T_hasRead_7 (by decide) (fun c6 => ?_) (fun c6 => ?_)
    · rw [if_pos c6] at h
      refine r_iconst C (0 : Int32) d_T_hasRead_28 (by decide) ?_
      cases h
      exact r_zret C hr d_T_hasRead_29 (Or.inl rfl)
    · rw [if_neg c6] at h
      refine r_aload_n (x := (some v0)) C d_T_hasRead_10 rfl rfl ?_
      replace h := g_ob h; obtain ⟨x2, e_x2, h⟩ := h
      refine r_getR C f_T_9 d_T_hasRead_11 e_x2 ?_
      refine r_iload_n (x := v2) C d_T_hasRead_14 rfl rfl ?_
      replace h := g_ob h; obtain ⟨a3, rfl, h⟩ := h
      replace h := g_ob h; obtain ⟨x4, e_x4, h⟩ := h
      refine r_iald C ak_100 d_T_hasRead_15 e_x4 ?_
      refine r_iload_n (x := v1) C d_T_hasRead_16 rfl rfl ?_
      refine r_icmp_ne C 22 d_T_hasRead_17 (by decide) (fun c5 => ?_) (fun c5 => ?_)
      · rw [if_neg c5] at h
        refine r_iinc (x := v2) (v := v2 + (1 : Int32)) (lv' := [(2, tI (v2 + (1 : Int32))), (0, tR (some v0)), (1, tI v1)]) C d_T_hasRead_22 rfl rfl (by decide) rfl ?_
        refine r_goto C 2 d_T_hasRead_25 (by decide) ?_
        refine r_lv [1, 2, 0] rfl ?_
        exact ih v0 v1 (v2 + (1 : Int32)) V h
      · rw [if_pos c5] at h
        refine r_iconst C (1 : Int32) d_T_hasRead_20 (by decide) ?_
        cases h
        exact r_zret C hr d_T_hasRead_21 (Or.inr rfl)
set_option maxHeartbeats 4000000 in
set_option maxRecDepth 100000 in
theorem t_T_hasRead_0 (C : gC E bA p s m args meth c b_T_hasRead R_T 3) (hr : meth.sig.returnType = (some .boolean)) {z : Int32 × gV} (h0 : Nat) (p1 : Int32) (V : gV) (h : D_T_hasRead h0 p1 L V = some z) : vW E base bA 3 p l e rm_T_hasRead s m args below meth c 0 0 (g_MQ E base bA below args s 0 0 L z.2 (some (tI z.1))) L V 0 [(0, tR (some h0)), (1, tI p1)] [] := by
  unfold D_T_hasRead at h
  refine r_iconst C (0 : Int32) d_T_hasRead_0 (by decide) ?_
  refine r_istore_n (lv' := [(2, tI (0 : Int32)), (0, tR (some h0)), (1, tI p1)]) C d_T_hasRead_1 rfl (by decide) rfl ?_
  refine r_lv [1, 2, 0] rfl ?_
  exact t_T_hasRead_2 C hr  1000 h0 p1 (0 : Int32) V h
theorem c_T_hasRead (l : Launch) (E : gE) (base bA : Nat) (h0 : Nat) (p1 : Int32) (L : gL) (V : gV) {z : Int32 × gV} (h : D_T_hasRead h0 p1 L V = some z) : g_Met l E base bA y_T_hasRead b_T_hasRead 3 (some .boolean) rm_T_hasRead [tR (some h0), tI p1] L V (some (tI z.1)) L z.2 :=
  r_enter R_T (by decide) rfl [tR (some h0), tI p1] [(0, tR (some h0)), (1, tI p1)] rfl (Nat.le_of_ble_eq_true rfl) (fun p e s m args below meth c C hr hnm => t_T_hasRead_0 C hr h0 p1 V h)
def rm_T_addRead : Room := { frames := 1, cells := 0, slots := 0, locals := 22 }
def D_T_addRead (h0 : Nat) (p1 : Int32) (L : gL) (V : gV) : Option (Int32 × gV) :=
  Option.bind (g_rI L V 2 h0 3) fun x1 =>
    (if (6 : Int32) ≤ x1 then
    some ((0 : Int32), V)
  else
    Option.bind ((L).2 2 h0) fun n12 =>
    g_b2 (D_T_hasRead h0 p1 L V) fun r2 V3 =>
    (if r2 = 0 then
    Option.bind (g_rR L V3 2 h0 2) fun x4 =>
    Option.bind (g_rI L V3 2 h0 3) fun x5 =>
    Option.bind x4 fun a6 =>
    Option.bind (g_wa L V3 100 a6 x5 (tI p1)) fun V7 =>
    Option.bind (g_rI L V7 2 h0 3) fun x8 =>
    Option.bind (g_wr L V7 2 h0 3 (tI (x8 + (1 : Int32)))) fun V9 =>
    Option.bind (g_wr L V9 2 h0 5 (tI (0 : Int32))) fun V10 =>
    some ((1 : Int32), V10)
  else
    some ((0 : Int32), V3)))
set_option maxHeartbeats 4000000 in
set_option maxRecDepth 100000 in
theorem t_T_addRead_0 (C : gC E base p s m args meth c b_T_addRead R_T 2) (hr : meth.sig.returnType = (some .boolean)) {z : Int32 × gV} (h0 : Nat) (p1 : Int32) (V : gV) (h : D_T_addRead h0 p1 L V = some z) : vW E base base 2 p l e rm_T_addRead s m args below meth c 0 0 (g_MQ E base base below args s 0 0 L z.2 (some (tI z.1))) L V 0 [(0, tR (some h0)), (1, tI p1)] [] := by
  unfold D_T_addRead at h
  refine r_aload_n (x := (some h0)) C d_T_addRead_0 rfl rfl ?_
  replace h := g_ob h; obtain ⟨x1, e_x1, h⟩ := h
  refine r_getI C f_T_15 d_T_addRead_1 e_x1 ?_
  refine r_bipush C (6 : Int32) d_T_addRead_4 (by decide) ?_
  refine r_icmp_ge C 17 d_T_addRead_6 (by decide) (fun c13 => ?_) (fun c13 => ?_)
  · rw [if_pos c13] at h
    refine r_iconst C (0 : Int32) d_T_addRead_17 (by decide) ?_
    cases h
    exact r_zret C hr d_T_addRead_18 (Or.inl rfl)
  · rw [if_neg c13] at h
    refine r_aload_n (x := (some h0)) C d_T_addRead_9 rfl rfl ?_
    refine r_iload_n (x := p1) C d_T_addRead_10 rfl rfl ?_
    replace h := g_ob h; obtain ⟨n12, e_n12, h⟩ := h
    replace h := g_o2 h; obtain ⟨r2, V3, e_r2, h⟩ := h
    refine r_callV (As := [tI p1]) C k_T_52 w_39 w_40 w_36 ⟨_, _, rfl⟩ (c_T_hasRead l E base base h0 p1 L V e_r2) d_T_addRead_11 e_n12 rfl ⟨Nat.le_of_ble_eq_true rfl, Nat.le_of_ble_eq_true rfl⟩ (Nat.le_of_ble_eq_true rfl) (Nat.le_of_ble_eq_true rfl) (Nat.le_of_ble_eq_true rfl) rfl ?_
    refine r_if_eq C 19 d_T_addRead_14 (by decide) (fun c11 => ?_) (fun c11 => ?_)
    · rw [if_pos c11] at h
      refine r_aload_n (x := (some h0)) C d_T_addRead_19 rfl rfl ?_
      replace h := g_ob h; obtain ⟨x4, e_x4, h⟩ := h
      refine r_getR C f_T_9 d_T_addRead_20 e_x4 ?_
      refine r_aload_n (x := (some h0)) C d_T_addRead_23 rfl rfl ?_
      replace h := g_ob h; obtain ⟨x5, e_x5, h⟩ := h
      refine r_getI C f_T_15 d_T_addRead_24 e_x5 ?_
      refine r_iload_n (x := p1) C d_T_addRead_27 rfl rfl ?_
      replace h := g_ob h; obtain ⟨a6, rfl, h⟩ := h
      replace h := g_ob h; obtain ⟨V7, e_V7, h⟩ := h
      refine r_iast C ak_100 d_T_addRead_28 e_V7 ?_
      refine r_aload_n (x := (some h0)) C d_T_addRead_29 rfl rfl ?_
      refine r_dup C d_T_addRead_30 rfl ?_
      replace h := g_ob h; obtain ⟨x8, e_x8, h⟩ := h
      refine r_getI C f_T_15 d_T_addRead_31 e_x8 ?_
      refine r_iconst C (1 : Int32) d_T_addRead_34 (by decide) ?_
      refine r_iadd C d_T_addRead_35 ?_
      replace h := g_ob h; obtain ⟨V9, e_V9, h⟩ := h
      refine r_put C f_T_15 d_T_addRead_36 e_V9 (g_nI (x8 + (1 : Int32))).1 (g_nI (x8 + (1 : Int32))).2 ?_
      refine r_aload_n (x := (some h0)) C d_T_addRead_39 rfl rfl ?_
      refine r_iconst C (0 : Int32) d_T_addRead_40 (by decide) ?_
      replace h := g_ob h; obtain ⟨V10, e_V10, h⟩ := h
      refine r_put C f_T_25 d_T_addRead_41 e_V10 (g_nI (0 : Int32)).1 (g_nI (0 : Int32)).2 ?_
      refine r_iconst C (1 : Int32) d_T_addRead_44 (by decide) ?_
      cases h
      exact r_zret C hr d_T_addRead_45 (Or.inr rfl)
    · rw [if_neg c11] at h
      refine r_iconst C (0 : Int32) d_T_addRead_17 (by decide) ?_
      cases h
      exact r_zret C hr d_T_addRead_18 (Or.inl rfl)
theorem c_T_addRead (l : Launch) (E : gE) (base : Nat) (h0 : Nat) (p1 : Int32) (L : gL) (V : gV) {z : Int32 × gV} (h : D_T_addRead h0 p1 L V = some z) : g_Met l E base base y_T_addRead b_T_addRead 2 (some .boolean) rm_T_addRead [tR (some h0), tI p1] L V (some (tI z.1)) L z.2 :=
  r_enter R_T (by decide) rfl [tR (some h0), tI p1] [(0, tR (some h0)), (1, tI p1)] rfl (Nat.le_of_ble_eq_true rfl) (fun p e s m args below meth c C hr hnm => t_T_addRead_0 C hr h0 p1 V h)
def rm_T_forgetLatestBuild : Room := { frames := 0, cells := 0, slots := 0, locals := 0 }
def D_T_forgetLatestBuild (h0 : Nat) (L : gL) (V : gV) : Option (Unit × gV) :=
  Option.bind (g_wr L V 2 h0 7 (tI (0 : Int32))) fun V1 =>
    Option.bind (g_wr L V1 2 h0 8 (tI (0 : Int32))) fun V2 =>
    Option.bind (g_wr L V2 2 h0 9 (tI (0 : Int32))) fun V3 =>
    Option.bind (g_wr L V3 2 h0 10 (tI (-1 : Int32))) fun V4 =>
    some ((), V4)
set_option maxHeartbeats 4000000 in
set_option maxRecDepth 100000 in
theorem t_T_forgetLatestBuild_0 (C : gC E base p s m args meth c b_T_forgetLatestBuild R_T 1) (hr : meth.sig.returnType = none) {z : Unit × gV} (h0 : Nat) (V : gV) (h : D_T_forgetLatestBuild h0 L V = some z) : vW E base base 1 p l e rm_T_forgetLatestBuild s m args below meth c 0 0 (g_MQ E base base below args s 0 0 L z.2 none) L V 0 [(0, tR (some h0))] [] := by
  unfold D_T_forgetLatestBuild at h
  refine r_aload_n (x := (some h0)) C d_T_forgetLatestBuild_0 rfl rfl ?_
  refine r_iconst C (0 : Int32) d_T_forgetLatestBuild_1 (by decide) ?_
  replace h := g_ob h; obtain ⟨V1, e_V1, h⟩ := h
  refine r_put C f_T_32 d_T_forgetLatestBuild_2 e_V1 (g_nZ (x := (0 : Int32)) (Or.inl rfl)).1 (g_nZ (x := (0 : Int32)) (Or.inl rfl)).2 ?_
  refine r_aload_n (x := (some h0)) C d_T_forgetLatestBuild_5 rfl rfl ?_
  refine r_iconst C (0 : Int32) d_T_forgetLatestBuild_6 (by decide) ?_
  replace h := g_ob h; obtain ⟨V2, e_V2, h⟩ := h
  refine r_put C f_T_35 d_T_forgetLatestBuild_7 e_V2 (g_nZ (x := (0 : Int32)) (Or.inl rfl)).1 (g_nZ (x := (0 : Int32)) (Or.inl rfl)).2 ?_
  refine r_aload_n (x := (some h0)) C d_T_forgetLatestBuild_10 rfl rfl ?_
  refine r_iconst C (0 : Int32) d_T_forgetLatestBuild_11 (by decide) ?_
  replace h := g_ob h; obtain ⟨V3, e_V3, h⟩ := h
  refine r_put C f_T_38 d_T_forgetLatestBuild_12 e_V3 (g_nI (0 : Int32)).1 (g_nI (0 : Int32)).2 ?_
  refine r_aload_n (x := (some h0)) C d_T_forgetLatestBuild_15 rfl rfl ?_
  refine r_iconst C (-1 : Int32) d_T_forgetLatestBuild_16 (by decide) ?_
  replace h := g_ob h; obtain ⟨V4, e_V4, h⟩ := h
  refine r_put C f_T_41 d_T_forgetLatestBuild_17 e_V4 (g_nI (-1 : Int32)).1 (g_nI (-1 : Int32)).2 ?_
  cases h
  exact r_vret C hr d_T_forgetLatestBuild_20
theorem c_T_forgetLatestBuild (l : Launch) (E : gE) (base : Nat) (h0 : Nat) (L : gL) (V : gV) {z : Unit × gV} (h : D_T_forgetLatestBuild h0 L V = some z) : g_Met l E base base y_T_forgetLatestBuild b_T_forgetLatestBuild 1 none rm_T_forgetLatestBuild [tR (some h0)] L V none L z.2 :=
  r_enter R_T (by decide) rfl [tR (some h0)] [(0, tR (some h0))] rfl (Nat.le_of_ble_eq_true rfl) (fun p e s m args below meth c C hr hnm => t_T_forgetLatestBuild_0 C hr h0 V h)
def rm_T_isWithoutOutput : Room := { frames := 0, cells := 0, slots := 0, locals := 0 }
def D_T_isWithoutOutput_24 (L : gL)  (V : gV) : Option (Int32 × gV) :=
  some ((1 : Int32), V)
def D_T_isWithoutOutput (h0 : Nat) (L : gL) (V : gV) : Option (Int32 × gV) :=
  Option.bind (g_rI L V 2 h0 9) fun x1 =>
    (if x1 = (3 : Int32) then
    D_T_isWithoutOutput_24 L   V
  else
    Option.bind (g_rI L V 2 h0 9) fun x2 =>
    (if x2 = (4 : Int32) then
    D_T_isWithoutOutput_24 L   V
  else
    Option.bind (g_rI L V 2 h0 9) fun x3 =>
    (if x3 = (5 : Int32) then
    D_T_isWithoutOutput_24 L   V
  else
    some ((0 : Int32), V))))
set_option maxHeartbeats 4000000 in
set_option maxRecDepth 100000 in
theorem t_T_isWithoutOutput_24 (C : gC E bA p s m args meth c b_T_isWithoutOutput R_T 1) (hr : meth.sig.returnType = (some .boolean)) {z : Int32 × gV}  (V : gV) (h : D_T_isWithoutOutput_24 L   V = some z) : vW E base bA 1 p l e rm_T_isWithoutOutput s m args below meth c 0 0 (g_MQ E base bA below args s 0 0 L z.2 (some (tI z.1))) L V 24 [] [] := by
  unfold D_T_isWithoutOutput_24 at h
  refine r_iconst C (1 : Int32) d_T_isWithoutOutput_24 (by decide) ?_
  refine r_goto C 29 d_T_isWithoutOutput_25 (by decide) ?_
  cases h
  exact r_zret C hr d_T_isWithoutOutput_29 (Or.inr rfl)
set_option maxHeartbeats 4000000 in
set_option maxRecDepth 100000 in
theorem t_T_isWithoutOutput_0 (C : gC E bA p s m args meth c b_T_isWithoutOutput R_T 1) (hr : meth.sig.returnType = (some .boolean)) {z : Int32 × gV} (h0 : Nat) (V : gV) (h : D_T_isWithoutOutput h0 L V = some z) : vW E base bA 1 p l e rm_T_isWithoutOutput s m args below meth c 0 0 (g_MQ E base bA below args s 0 0 L z.2 (some (tI z.1))) L V 0 [(0, tR (some h0))] [] := by
  unfold D_T_isWithoutOutput at h
  refine r_aload_n (x := (some h0)) C d_T_isWithoutOutput_0 rfl rfl ?_
  replace h := g_ob h; obtain ⟨x1, e_x1, h⟩ := h
  refine r_getI C f_T_38 d_T_isWithoutOutput_1 e_x1 ?_
  refine r_iconst C (3 : Int32) d_T_isWithoutOutput_4 (by decide) ?_
  refine r_icmp_eq C 24 d_T_isWithoutOutput_5 (by decide) (fun c6 => ?_) (fun c6 => ?_)
  · rw [if_pos c6] at h
    refine r_lv [] rfl ?_
    exact t_T_isWithoutOutput_24 C hr   V h
  · rw [if_neg c6] at h
    refine r_aload_n (x := (some h0)) C d_T_isWithoutOutput_8 rfl rfl ?_
    replace h := g_ob h; obtain ⟨x2, e_x2, h⟩ := h
    refine r_getI C f_T_38 d_T_isWithoutOutput_9 e_x2 ?_
    refine r_iconst C (4 : Int32) d_T_isWithoutOutput_12 (by decide) ?_
    refine r_icmp_eq C 24 d_T_isWithoutOutput_13 (by decide) (fun c5 => ?_) (fun c5 => ?_)
    · rw [if_pos c5] at h
      refine r_lv [] rfl ?_
      exact t_T_isWithoutOutput_24 C hr   V h
    · rw [if_neg c5] at h
      refine r_aload_n (x := (some h0)) C d_T_isWithoutOutput_16 rfl rfl ?_
      replace h := g_ob h; obtain ⟨x3, e_x3, h⟩ := h
      refine r_getI C f_T_38 d_T_isWithoutOutput_17 e_x3 ?_
      refine r_iconst C (5 : Int32) d_T_isWithoutOutput_20 (by decide) ?_
      refine r_icmp_ne C 28 d_T_isWithoutOutput_21 (by decide) (fun c4 => ?_) (fun c4 => ?_)
      · rw [if_neg c4] at h
        refine r_iconst C (0 : Int32) d_T_isWithoutOutput_28 (by decide) ?_
        cases h
        exact r_zret C hr d_T_isWithoutOutput_29 (Or.inl rfl)
      · rw [if_pos c4] at h
        refine r_lv [] rfl ?_
        exact t_T_isWithoutOutput_24 C hr   V h
theorem c_T_isWithoutOutput (l : Launch) (E : gE) (base bA : Nat) (h0 : Nat) (L : gL) (V : gV) {z : Int32 × gV} (h : D_T_isWithoutOutput h0 L V = some z) : g_Met l E base bA y_T_isWithoutOutput b_T_isWithoutOutput 1 (some .boolean) rm_T_isWithoutOutput [tR (some h0)] L V (some (tI z.1)) L z.2 :=
  r_enter R_T (by decide) rfl [tR (some h0)] [(0, tR (some h0))] rfl (Nat.le_of_ble_eq_true rfl) (fun p e s m args below meth c C hr hnm => t_T_isWithoutOutput_0 C hr h0 V h)
def rm_T_placeOfSameReads : Room := { frames := 2, cells := 0, slots := 0, locals := 47 }
def D_T_placeOfSameReads_2 (L : gL) : Nat → Nat → Nat → Int32 → gV → Option (Int32 × gV)
  | 0, _, _, _, _ => none
  | n + 1, v0, v1, v2, V =>
  Option.bind (g_rI L V 2 v0 5) fun x1 =>
    (if x1 ≤ v2 then
    some ((-1 : Int32), V)
  else
    Option.bind (g_rR L V 2 v0 4) fun x2 =>
    Option.bind x2 fun a3 =>
    Option.bind (g_aR L V 105 a3 v2) fun x4 =>
    Option.bind (g_rI L V 2 v0 3) fun x5 =>
    Option.bind x4 fun a6 =>
    Option.bind ((L).2 0 a6) fun n10 =>
    g_b2 (D_N_firstDifference a6 v1 x5 L V) fun r7 V8 =>
    (if r7 = (-1 : Int32) then
    some (v2, V8)
  else
    D_T_placeOfSameReads_2 L  n v0 v1 (v2 + (1 : Int32)) V8))
def D_T_placeOfSameReads (h0 : Nat) (p1 : Nat) (L : gL) (V : gV) : Option (Int32 × gV) :=
  D_T_placeOfSameReads_2 L  1000 h0 p1 (0 : Int32) V
set_option maxHeartbeats 4000000 in
set_option maxRecDepth 100000 in
theorem t_T_placeOfSameReads_2 (C : gC E bA p s m args meth c b_T_placeOfSameReads R_T 3) (hr : meth.sig.returnType = (some .int)) {z : Int32 × gV} : ∀ (n : Nat) (v0 : Nat) (v1 : Nat) (v2 : Int32) (V : gV), D_T_placeOfSameReads_2 L  n v0 v1 v2 V = some z → vW E base bA 3 p l e rm_T_placeOfSameReads s m args below meth c 0 0 (g_MQ E base bA below args s 0 0 L z.2 (some (tI z.1))) L V 2 [(0, tR (some v0)), (1, tR (some v1)), (2, tI v2)] [] := by
  intro n
  induction n with
  | zero =>
    intro v0 v1 v2 V h
    rw [D_T_placeOfSameReads_2] at h
    cases h
  | succ n ih =>
    intro v0 v1 v2 V h
    rw [D_T_placeOfSameReads_2] at h
    refine r_iload_n (x := v2) C d_T_placeOfSameReads_2 rfl rfl ?_
    refine r_aload_n (x := (some v0)) C d_T_placeOfSameReads_3 rfl rfl ?_
    replace h := g_ob h; obtain ⟨x1, e_x1, h⟩ := h
    refine r_getI C f_T_25 d_T_placeOfSameReads_4 e_x1 ?_
    refine r_icmp_ge C 36 d_T_placeOfSameReads_7 (by decide) (fun c11 => ?_) (fun c11 => ?_)
    · rw [if_pos c11] at h
      refine r_iconst C (-1 : Int32) d_T_placeOfSameReads_36 (by decide) ?_
      cases h
      exact r_iret C hr d_T_placeOfSameReads_37
    · rw [if_neg c11] at h
      refine r_aload_n (x := (some v0)) C d_T_placeOfSameReads_10 rfl rfl ?_
      replace h := g_ob h; obtain ⟨x2, e_x2, h⟩ := h
      refine r_getR C f_T_21 d_T_placeOfSameReads_11 e_x2 ?_
      refine r_iload_n (x := v2) C d_T_placeOfSameReads_14 rfl rfl ?_
      replace h := g_ob h; obtain ⟨a3, rfl, h⟩ := h
      replace h := g_ob h; obtain ⟨x4, e_x4, h⟩ := h
      refine r_aald C ak_105 rfl d_T_placeOfSameReads_15 e_x4 ?_
      refine r_aload_n (x := (some v1)) C d_T_placeOfSameReads_16 rfl rfl ?_
      refine r_aload_n (x := (some v0)) C d_T_placeOfSameReads_17 rfl rfl ?_
      replace h := g_ob h; obtain ⟨x5, e_x5, h⟩ := h
      refine r_getI C f_T_15 d_T_placeOfSameReads_18 e_x5 ?_
      replace h := g_ob h; obtain ⟨a6, rfl, h⟩ := h
      replace h := g_ob h; obtain ⟨n10, e_n10, h⟩ := h
      replace h := g_o2 h; obtain ⟨r7, V8, e_r7, h⟩ := h
      refine r_callV (As := [tR (some v1), tI x5]) C k_T_56 w_43 w_44 w_41 ⟨_, _, rfl⟩ (c_N_firstDifference l E base bA a6 v1 x5 L V e_r7) d_T_placeOfSameReads_21 e_n10 rfl ⟨Nat.le_of_ble_eq_true rfl, Nat.le_of_ble_eq_true rfl⟩ (Nat.le_of_ble_eq_true rfl) (Nat.le_of_ble_eq_true rfl) (Nat.le_of_ble_eq_true rfl) rfl ?_
      refine r_iconst C (-1 : Int32) d_T_placeOfSameReads_24 (by decide) ?_
      refine r_icmp_ne C 30 d_T_placeOfSameReads_25 (by decide) (fun c9 => ?_) (fun c9 => ?_)
      · rw [if_neg c9] at h
        refine r_iinc (x := v2) (v := v2 + (1 : Int32)) (lv' := [(2, tI (v2 + (1 : Int32))), (0, tR (some v0)), (1, tR (some v1))]) C d_T_placeOfSameReads_30 rfl rfl (by decide) rfl ?_
        refine r_goto C 2 d_T_placeOfSameReads_33 (by decide) ?_
        refine r_lv [1, 2, 0] rfl ?_
        exact ih v0 v1 (v2 + (1 : Int32)) V8 h
      · rw [if_pos c9] at h
        refine r_iload_n (x := v2) C d_T_placeOfSameReads_28 rfl rfl ?_
        cases h
        exact r_iret C hr d_T_placeOfSameReads_29
set_option maxHeartbeats 4000000 in
set_option maxRecDepth 100000 in
theorem t_T_placeOfSameReads_0 (C : gC E bA p s m args meth c b_T_placeOfSameReads R_T 3) (hr : meth.sig.returnType = (some .int)) {z : Int32 × gV} (h0 : Nat) (p1 : Nat) (V : gV) (h : D_T_placeOfSameReads h0 p1 L V = some z) : vW E base bA 3 p l e rm_T_placeOfSameReads s m args below meth c 0 0 (g_MQ E base bA below args s 0 0 L z.2 (some (tI z.1))) L V 0 [(0, tR (some h0)), (1, tR (some p1))] [] := by
  unfold D_T_placeOfSameReads at h
  refine r_iconst C (0 : Int32) d_T_placeOfSameReads_0 (by decide) ?_
  refine r_istore_n (lv' := [(2, tI (0 : Int32)), (0, tR (some h0)), (1, tR (some p1))]) C d_T_placeOfSameReads_1 rfl (by decide) rfl ?_
  refine r_lv [1, 2, 0] rfl ?_
  exact t_T_placeOfSameReads_2 C hr  1000 h0 p1 (0 : Int32) V h
theorem c_T_placeOfSameReads (l : Launch) (E : gE) (base bA : Nat) (h0 : Nat) (p1 : Nat) (L : gL) (V : gV) {z : Int32 × gV} (h : D_T_placeOfSameReads h0 p1 L V = some z) : g_Met l E base bA y_T_placeOfSameReads b_T_placeOfSameReads 3 (some .int) rm_T_placeOfSameReads [tR (some h0), tR (some p1)] L V (some (tI z.1)) L z.2 :=
  r_enter R_T (by decide) rfl [tR (some h0), tR (some p1)] [(0, tR (some h0)), (1, tR (some p1))] rfl (Nat.le_of_ble_eq_true rfl) (fun p e s m args below meth c C hr hnm => t_T_placeOfSameReads_0 C hr h0 p1 V h)
def rm_T_bringFirst : Room := { frames := 0, cells := 0, slots := 0, locals := 0 }
def D_T_bringFirst_9 (L : gL) : Nat → Nat → Option Nat → Int32 → gV → Option (Unit × gV)
  | 0, _, _, _, _ => none
  | n + 1, v0, v2, v3, V =>
  (if v3 ≤ 0 then
    Option.bind (g_rR L V 2 v0 4) fun x1 =>
    Option.bind x1 fun a2 =>
    Option.bind v2 fun a3 =>
    Option.bind ((L).2 0 a3) fun n5 =>
    Option.bind (g_wa L V 105 a2 (0 : Int32) (tR (some a3))) fun V4 =>
    some ((), V4)
  else
    Option.bind (g_rR L V 2 v0 4) fun x6 =>
    Option.bind (g_rR L V 2 v0 4) fun x7 =>
    Option.bind x7 fun a8 =>
    Option.bind (g_aR L V 105 a8 (v3 - (1 : Int32))) fun x9 =>
    Option.bind x6 fun a10 =>
    Option.bind x9 fun a11 =>
    Option.bind ((L).2 0 a11) fun n13 =>
    Option.bind (g_wa L V 105 a10 v3 (tR (some a11))) fun V12 =>
    D_T_bringFirst_9 L  n v0 v2 (v3 + (-1 : Int32)) V12)
def D_T_bringFirst (h0 : Nat) (p1 : Int32) (L : gL) (V : gV) : Option (Unit × gV) :=
  Option.bind (g_rR L V 2 h0 4) fun x1 =>
    Option.bind x1 fun a2 =>
    Option.bind (g_aR L V 105 a2 p1) fun x3 =>
    D_T_bringFirst_9 L  1000 h0 x3 p1 V
set_option maxHeartbeats 4000000 in
set_option maxRecDepth 100000 in
theorem t_T_bringFirst_9 (C : gC E base p s m args meth c b_T_bringFirst R_T 4) (hr : meth.sig.returnType = none) {z : Unit × gV} : ∀ (n : Nat) (v0 : Nat) (v2 : Option Nat) (v3 : Int32) (V : gV), D_T_bringFirst_9 L  n v0 v2 v3 V = some z → vW E base base 4 p l e rm_T_bringFirst s m args below meth c 0 0 (g_MQ E base base below args s 0 0 L z.2 none) L V 9 [(0, tR (some v0)), (2, tR v2), (3, tI v3)] [] := by
  intro n
  induction n with
  | zero =>
    intro v0 v2 v3 V h
    rw [D_T_bringFirst_9] at h
    cases h
  | succ n ih =>
    intro v0 v2 v3 V h
    rw [D_T_bringFirst_9] at h
    refine r_iload_n (x := v3) C d_T_bringFirst_9 rfl rfl ?_
    refine r_if_le C 33 d_T_bringFirst_10 (by decide) (fun c14 => ?_) (fun c14 => ?_)
    · rw [if_pos c14] at h
      refine r_aload_n (x := (some v0)) C d_T_bringFirst_33 rfl rfl ?_
      replace h := g_ob h; obtain ⟨x1, e_x1, h⟩ := h
      refine r_getR C f_T_21 d_T_bringFirst_34 e_x1 ?_
      refine r_iconst C (0 : Int32) d_T_bringFirst_37 (by decide) ?_
      refine r_aload_n (x := v2) C d_T_bringFirst_38 rfl rfl ?_
      replace h := g_ob h; obtain ⟨a2, rfl, h⟩ := h
      replace h := g_ob h; obtain ⟨a3, rfl, h⟩ := h
      replace h := g_ob h; obtain ⟨n5, e_n5, h⟩ := h
      replace h := g_ob h; obtain ⟨V4, e_V4, h⟩ := h
      refine r_aast C ak_105 ⟨_, _, rfl⟩ d_T_bringFirst_39 e_n5 e_V4 ?_
      cases h
      exact r_vret C hr d_T_bringFirst_40
    · rw [if_neg c14] at h
      refine r_aload_n (x := (some v0)) C d_T_bringFirst_13 rfl rfl ?_
      replace h := g_ob h; obtain ⟨x6, e_x6, h⟩ := h
      refine r_getR C f_T_21 d_T_bringFirst_14 e_x6 ?_
      refine r_iload_n (x := v3) C d_T_bringFirst_17 rfl rfl ?_
      refine r_aload_n (x := (some v0)) C d_T_bringFirst_18 rfl rfl ?_
      replace h := g_ob h; obtain ⟨x7, e_x7, h⟩ := h
      refine r_getR C f_T_21 d_T_bringFirst_19 e_x7 ?_
      refine r_iload_n (x := v3) C d_T_bringFirst_22 rfl rfl ?_
      refine r_iconst C (1 : Int32) d_T_bringFirst_23 (by decide) ?_
      refine r_isub C d_T_bringFirst_24 ?_
      replace h := g_ob h; obtain ⟨a8, rfl, h⟩ := h
      replace h := g_ob h; obtain ⟨x9, e_x9, h⟩ := h
      refine r_aald C ak_105 rfl d_T_bringFirst_25 e_x9 ?_
      replace h := g_ob h; obtain ⟨a10, rfl, h⟩ := h
      replace h := g_ob h; obtain ⟨a11, rfl, h⟩ := h
      replace h := g_ob h; obtain ⟨n13, e_n13, h⟩ := h
      replace h := g_ob h; obtain ⟨V12, e_V12, h⟩ := h
      refine r_aast C ak_105 ⟨_, _, rfl⟩ d_T_bringFirst_26 e_n13 e_V12 ?_
      refine r_iinc (x := v3) (v := v3 + (-1 : Int32)) (lv' := [(3, tI (v3 + (-1 : Int32))), (0, tR (some v0)), (2, tR v2)]) C d_T_bringFirst_27 rfl rfl (by decide) rfl ?_
      refine r_goto C 9 d_T_bringFirst_30 (by decide) ?_
      refine r_lv [1, 2, 0] rfl ?_
      exact ih v0 v2 (v3 + (-1 : Int32)) V12 h
set_option maxHeartbeats 4000000 in
set_option maxRecDepth 100000 in
theorem t_T_bringFirst_0 (C : gC E base p s m args meth c b_T_bringFirst R_T 4) (hr : meth.sig.returnType = none) {z : Unit × gV} (h0 : Nat) (p1 : Int32) (V : gV) (h : D_T_bringFirst h0 p1 L V = some z) : vW E base base 4 p l e rm_T_bringFirst s m args below meth c 0 0 (g_MQ E base base below args s 0 0 L z.2 none) L V 0 [(0, tR (some h0)), (1, tI p1)] [] := by
  unfold D_T_bringFirst at h
  refine r_aload_n (x := (some h0)) C d_T_bringFirst_0 rfl rfl ?_
  replace h := g_ob h; obtain ⟨x1, e_x1, h⟩ := h
  refine r_getR C f_T_21 d_T_bringFirst_1 e_x1 ?_
  refine r_iload_n (x := p1) C d_T_bringFirst_4 rfl rfl ?_
  replace h := g_ob h; obtain ⟨a2, rfl, h⟩ := h
  replace h := g_ob h; obtain ⟨x3, e_x3, h⟩ := h
  refine r_aald C ak_105 rfl d_T_bringFirst_5 e_x3 ?_
  refine r_astore_n (lv' := [(2, tR x3), (0, tR (some h0)), (1, tI p1)]) C d_T_bringFirst_6 rfl (by decide) rfl ?_
  refine r_iload_n (x := p1) C d_T_bringFirst_7 rfl rfl ?_
  refine r_istore_n (lv' := [(3, tI p1), (2, tR x3), (0, tR (some h0)), (1, tI p1)]) C d_T_bringFirst_8 rfl (by decide) rfl ?_
  refine r_lv [2, 1, 0] rfl ?_
  exact t_T_bringFirst_9 C hr  1000 h0 x3 p1 V h
theorem c_T_bringFirst (l : Launch) (E : gE) (base : Nat) (h0 : Nat) (p1 : Int32) (L : gL) (V : gV) {z : Unit × gV} (h : D_T_bringFirst h0 p1 L V = some z) : g_Met l E base base y_T_bringFirst b_T_bringFirst 4 none rm_T_bringFirst [tR (some h0), tI p1] L V none L z.2 :=
  r_enter R_T (by decide) rfl [tR (some h0), tI p1] [(0, tR (some h0)), (1, tI p1)] rfl (Nat.le_of_ble_eq_true rfl) (fun p e s m args below meth c C hr hnm => t_T_bringFirst_0 C hr h0 p1 V h)
def rm_T_reuse : Room := { frames := 1, cells := 0, slots := 0, locals := 23 }
def D_T_reuse (h0 : Nat) (p1 : Int32) (L : gL) (V : gV) : Option (Unit × gV) :=
  Option.bind ((L).2 2 h0) fun n15 =>
    g_b2 (D_T_bringFirst h0 p1 L V) fun r1 V2 =>
    Option.bind (g_rR L V2 2 h0 4) fun x3 =>
    Option.bind x3 fun a4 =>
    Option.bind (g_aR L V2 105 a4 (0 : Int32)) fun x5 =>
    Option.bind x5 fun a6 =>
    Option.bind ((L).2 0 a6) fun n14 =>
    g_b2 (D_N_hasFailed a6 L V2) fun r7 V8 =>
    (if r7 = 0 then
    (if p1 = 0 then
    Option.bind (g_wr L V8 2 h0 9 (tI (1 : Int32))) fun V10 =>
    some ((), V10)
  else
    Option.bind (g_wr L V8 2 h0 9 (tI (6 : Int32))) fun V9 =>
    some ((), V9))
  else
    Option.bind (g_wr L V8 2 h0 9 (tI (4 : Int32))) fun V12 =>
    some ((), V12))
set_option maxHeartbeats 4000000 in
set_option maxRecDepth 100000 in
theorem t_T_reuse_0 (C : gC E base p s m args meth c b_T_reuse R_T 2) (hr : meth.sig.returnType = none) {z : Unit × gV} (h0 : Nat) (p1 : Int32) (V : gV) (h : D_T_reuse h0 p1 L V = some z) : vW E base base 2 p l e rm_T_reuse s m args below meth c 0 0 (g_MQ E base base below args s 0 0 L z.2 none) L V 0 [(0, tR (some h0)), (1, tI p1)] [] := by
  unfold D_T_reuse at h
  refine r_aload_n (x := (some h0)) C d_T_reuse_0 rfl rfl ?_
  refine r_iload_n (x := p1) C d_T_reuse_1 rfl rfl ?_
  replace h := g_ob h; obtain ⟨n15, e_n15, h⟩ := h
  replace h := g_o2 h; obtain ⟨r1, V2, e_r1, h⟩ := h
  refine r_callV (As := [tI p1]) C k_T_60 w_51 w_52 w_45 ⟨_, _, rfl⟩ (c_T_bringFirst l E base h0 p1 L V e_r1) d_T_reuse_2 e_n15 rfl ⟨Nat.le_of_ble_eq_true rfl, Nat.le_of_ble_eq_true rfl⟩ (Nat.le_of_ble_eq_true rfl) (Nat.le_of_ble_eq_true rfl) (Nat.le_of_ble_eq_true rfl) rfl ?_
  refine r_aload_n (x := (some h0)) C d_T_reuse_5 rfl rfl ?_
  replace h := g_ob h; obtain ⟨x3, e_x3, h⟩ := h
  refine r_getR C f_T_21 d_T_reuse_6 e_x3 ?_
  refine r_iconst C (0 : Int32) d_T_reuse_9 (by decide) ?_
  replace h := g_ob h; obtain ⟨a4, rfl, h⟩ := h
  replace h := g_ob h; obtain ⟨x5, e_x5, h⟩ := h
  refine r_aald C ak_105 rfl d_T_reuse_10 e_x5 ?_
  replace h := g_ob h; obtain ⟨a6, rfl, h⟩ := h
  replace h := g_ob h; obtain ⟨n14, e_n14, h⟩ := h
  replace h := g_o2 h; obtain ⟨r7, V8, e_r7, h⟩ := h
  refine r_callV (As := []) C k_T_64 w_49 w_50 w_47 ⟨_, _, rfl⟩ (c_N_hasFailed l E base base a6 L V2 e_r7) d_T_reuse_11 e_n14 rfl ⟨Nat.le_of_ble_eq_true rfl, Nat.le_of_ble_eq_true rfl⟩ (Nat.le_of_ble_eq_true rfl) (Nat.le_of_ble_eq_true rfl) (Nat.le_of_ble_eq_true rfl) rfl ?_
  refine r_if_eq C 25 d_T_reuse_14 (by decide) (fun c13 => ?_) (fun c13 => ?_)
  · rw [if_pos c13] at h
    refine r_aload_n (x := (some h0)) C d_T_reuse_25 rfl rfl ?_
    refine r_iload_n (x := p1) C d_T_reuse_26 rfl rfl ?_
    refine r_if_ne C 34 d_T_reuse_27 (by decide) (fun c11 => ?_) (fun c11 => ?_)
    · rw [if_neg c11] at h
      refine r_bipush C (6 : Int32) d_T_reuse_34 (by decide) ?_
      replace h := g_ob h; obtain ⟨V9, e_V9, h⟩ := h
      refine r_put C f_T_38 d_T_reuse_36 e_V9 (g_nI (6 : Int32)).1 (g_nI (6 : Int32)).2 ?_
      cases h
      exact r_vret C hr d_T_reuse_39
    · rw [if_pos c11] at h
      refine r_iconst C (1 : Int32) d_T_reuse_30 (by decide) ?_
      refine r_goto C 36 d_T_reuse_31 (by decide) ?_
      replace h := g_ob h; obtain ⟨V10, e_V10, h⟩ := h
      refine r_put C f_T_38 d_T_reuse_36 e_V10 (g_nI (1 : Int32)).1 (g_nI (1 : Int32)).2 ?_
      cases h
      exact r_vret C hr d_T_reuse_39
  · rw [if_neg c13] at h
    refine r_aload_n (x := (some h0)) C d_T_reuse_17 rfl rfl ?_
    refine r_iconst C (4 : Int32) d_T_reuse_18 (by decide) ?_
    replace h := g_ob h; obtain ⟨V12, e_V12, h⟩ := h
    refine r_put C f_T_38 d_T_reuse_19 e_V12 (g_nI (4 : Int32)).1 (g_nI (4 : Int32)).2 ?_
    refine r_goto C 39 d_T_reuse_22 (by decide) ?_
    cases h
    exact r_vret C hr d_T_reuse_39
theorem c_T_reuse (l : Launch) (E : gE) (base : Nat) (h0 : Nat) (p1 : Int32) (L : gL) (V : gV) {z : Unit × gV} (h : D_T_reuse h0 p1 L V = some z) : g_Met l E base base y_T_reuse b_T_reuse 2 none rm_T_reuse [tR (some h0), tI p1] L V none L z.2 :=
  r_enter R_T (by decide) rfl [tR (some h0), tI p1] [(0, tR (some h0)), (1, tI p1)] rfl (Nat.le_of_ble_eq_true rfl) (fun p e s m args below meth c C hr hnm => t_T_reuse_0 C hr h0 p1 V h)
def rm_T_fillOutcome : Room := { frames := 1, cells := 0, slots := 0, locals := 22 }
def D_T_fillOutcome_7 (L : gL) : Nat → Nat → Nat → Int64 → Int32 → gV → Option (Unit × gV)
  | 0, _, _, _, _, _ => none
  | n + 1, v0, v1, v2, v4, V =>
  Option.bind (g_rI L V 2 v0 3) fun x1 =>
    (if x1 ≤ v4 then
    Option.bind (g_wr L V 0 v1 4 (tJ v2)) fun V2 =>
    Option.bind (g_rJ L V2 2 v0 0) fun x3 =>
    Option.bind (g_wr L V2 0 v1 3 (tJ (v2 &&& x3))) fun V4 =>
    Option.bind (g_rI L V4 2 v0 3) fun x5 =>
    Option.bind ((L).2 0 v1) fun n17 =>
    g_b2 (D_N_firstMissing v1 x5 L V4) fun r6 V7 =>
    Option.bind (g_wr L V7 0 v1 2 (tI r6)) fun V8 =>
    Option.bind (g_rI L V8 0 v1 2) fun x9 =>
    (if x9 = (-1 : Int32) then
    Option.bind (g_rJ L V8 2 v0 1) fun x10 =>
    (if (lg_cmp x10 (0 : Int64)) = 0 then
    some ((), V8)
  else
    Option.bind (g_rJ L V8 2 v0 1) fun x11 =>
    (if x11 = 0 then none else
    (if (lg_cmp (v2 - v2 / x11 * x11) (0 : Int64)) = 0 then
    Option.bind (g_wr L V8 0 v1 2 (tI (6 : Int32))) fun V12 =>
    some ((), V12)
  else
    some ((), V8))))
  else
    some ((), V8))
  else
    Option.bind (g_rR L V 0 v1 1) fun x18 =>
    Option.bind x18 fun a19 =>
    Option.bind (g_aJ L V 101 a19 v4) fun x20 =>
    D_T_fillOutcome_7 L  n v0 v1 (((31 : Int64) * v2) + x20) (v4 + (1 : Int32)) V)
def D_T_fillOutcome (h0 : Nat) (p1 : Nat) (L : gL) (V : gV) : Option (Unit × gV) :=
  D_T_fillOutcome_7 L  1000 h0 p1 (17 : Int64) (0 : Int32) V
set_option maxHeartbeats 4000000 in
set_option maxRecDepth 100000 in
theorem t_T_fillOutcome_7 (C : gC E base p s m args meth c b_T_fillOutcome R_T 5) (hr : meth.sig.returnType = none) {z : Unit × gV} : ∀ (n : Nat) (v0 : Nat) (v1 : Nat) (v2 : Int64) (v4 : Int32) (V : gV), D_T_fillOutcome_7 L  n v0 v1 v2 v4 V = some z → vW E base base 5 p l e rm_T_fillOutcome s m args below meth c 0 0 (g_MQ E base base below args s 0 0 L z.2 none) L V 7 [(0, tR (some v0)), (1, tR (some v1)), (2, tJ v2), (4, tI v4)] [] := by
  intro n
  induction n with
  | zero =>
    intro v0 v1 v2 v4 V h
    rw [D_T_fillOutcome_7] at h
    cases h
  | succ n ih =>
    intro v0 v1 v2 v4 V h
    rw [D_T_fillOutcome_7] at h
    refine r_iload (x := v4) C d_T_fillOutcome_7 rfl ?_
    refine r_aload_n (x := (some v0)) C d_T_fillOutcome_9 rfl rfl ?_
    replace h := g_ob h; obtain ⟨x1, e_x1, h⟩ := h
    refine r_getI C f_T_15 d_T_fillOutcome_10 e_x1 ?_
    refine r_icmp_ge C 36 d_T_fillOutcome_13 (by decide) (fun c21 => ?_) (fun c21 => ?_)
    · rw [if_pos c21] at h
      refine r_aload_n (x := (some v1)) C d_T_fillOutcome_36 rfl rfl ?_
      refine r_lload_n (x := v2) C d_T_fillOutcome_37 rfl rfl ?_
      replace h := g_ob h; obtain ⟨V2, e_V2, h⟩ := h
      refine r_put C f_T_90 d_T_fillOutcome_38 e_V2 (g_nJ v2).1 (g_nJ v2).2 ?_
      refine r_aload_n (x := (some v1)) C d_T_fillOutcome_41 rfl rfl ?_
      refine r_lload_n (x := v2) C d_T_fillOutcome_42 rfl rfl ?_
      refine r_aload_n (x := (some v0)) C d_T_fillOutcome_43 rfl rfl ?_
      replace h := g_ob h; obtain ⟨x3, e_x3, h⟩ := h
      refine r_getJ C f_T_44 d_T_fillOutcome_44 e_x3 ?_
      refine r_land C d_T_fillOutcome_47 ?_
      replace h := g_ob h; obtain ⟨V4, e_V4, h⟩ := h
      refine r_put C f_T_93 d_T_fillOutcome_48 e_V4 (g_nJ (v2 &&& x3)).1 (g_nJ (v2 &&& x3)).2 ?_
      refine r_aload_n (x := (some v1)) C d_T_fillOutcome_51 rfl rfl ?_
      refine r_aload_n (x := (some v1)) C d_T_fillOutcome_52 rfl rfl ?_
      refine r_aload_n (x := (some v0)) C d_T_fillOutcome_53 rfl rfl ?_
      replace h := g_ob h; obtain ⟨x5, e_x5, h⟩ := h
      refine r_getI C f_T_15 d_T_fillOutcome_54 e_x5 ?_
      replace h := g_ob h; obtain ⟨n17, e_n17, h⟩ := h
      replace h := g_o2 h; obtain ⟨r6, V7, e_r6, h⟩ := h
      refine r_callV (As := [tI x5]) C k_T_96 w_61 w_62 w_58 ⟨_, _, rfl⟩ (c_N_firstMissing l E base base v1 x5 L V4 e_r6) d_T_fillOutcome_57 e_n17 rfl ⟨Nat.le_of_ble_eq_true rfl, Nat.le_of_ble_eq_true rfl⟩ (Nat.le_of_ble_eq_true rfl) (Nat.le_of_ble_eq_true rfl) (Nat.le_of_ble_eq_true rfl) rfl ?_
      replace h := g_ob h; obtain ⟨V8, e_V8, h⟩ := h
      refine r_put C f_T_100 d_T_fillOutcome_60 e_V8 (g_nI r6).1 (g_nI r6).2 ?_
      refine r_aload_n (x := (some v1)) C d_T_fillOutcome_63 rfl rfl ?_
      replace h := g_ob h; obtain ⟨x9, e_x9, h⟩ := h
      refine r_getI C f_T_100 d_T_fillOutcome_64 e_x9 ?_
      refine r_iconst C (-1 : Int32) d_T_fillOutcome_67 (by decide) ?_
      refine r_icmp_ne C 97 d_T_fillOutcome_68 (by decide) (fun c16 => ?_) (fun c16 => ?_)
      · rw [if_neg c16] at h
        cases h
        exact r_vret C hr d_T_fillOutcome_97
      · rw [if_pos c16] at h
        refine r_aload_n (x := (some v0)) C d_T_fillOutcome_71 rfl rfl ?_
        replace h := g_ob h; obtain ⟨x10, e_x10, h⟩ := h
        refine r_getJ C f_T_48 d_T_fillOutcome_72 e_x10 ?_
        refine r_lconst C (0 : Int64) d_T_fillOutcome_75 (by decide) ?_
        refine r_lcmp C d_T_fillOutcome_76 ?_
        refine r_if_eq C 97 d_T_fillOutcome_77 (by decide) (fun c15 => ?_) (fun c15 => ?_)
        · rw [if_pos c15] at h
          cases h
          exact r_vret C hr d_T_fillOutcome_97
        · rw [if_neg c15] at h
          refine r_lload_n (x := v2) C d_T_fillOutcome_80 rfl rfl ?_
          refine r_aload_n (x := (some v0)) C d_T_fillOutcome_81 rfl rfl ?_
          replace h := g_ob h; obtain ⟨x11, e_x11, h⟩ := h
          refine r_getJ C f_T_48 d_T_fillOutcome_82 e_x11 ?_
          by_cases c14 : x11 = 0
          · rw [if_pos c14] at h; cases h
          rw [if_neg c14] at h
          refine r_lrem C d_T_fillOutcome_85 c14 ?_
          refine r_lconst C (0 : Int64) d_T_fillOutcome_86 (by decide) ?_
          refine r_lcmp C d_T_fillOutcome_87 ?_
          refine r_if_ne C 97 d_T_fillOutcome_88 (by decide) (fun c13 => ?_) (fun c13 => ?_)
          · rw [if_neg c13] at h
            cases h
            exact r_vret C hr d_T_fillOutcome_97
          · rw [if_pos c13] at h
            refine r_aload_n (x := (some v1)) C d_T_fillOutcome_91 rfl rfl ?_
            refine r_bipush C (6 : Int32) d_T_fillOutcome_92 (by decide) ?_
            replace h := g_ob h; obtain ⟨V12, e_V12, h⟩ := h
            refine r_put C f_T_100 d_T_fillOutcome_94 e_V12 (g_nI (6 : Int32)).1 (g_nI (6 : Int32)).2 ?_
            cases h
            exact r_vret C hr d_T_fillOutcome_97
    · rw [if_neg c21] at h
      refine r_ldc2 C (31 : Int64) d_T_fillOutcome_16 w_63 ?_
      refine r_lload_n (x := v2) C d_T_fillOutcome_19 rfl rfl ?_
      refine r_lmul C d_T_fillOutcome_20 ?_
      refine r_aload_n (x := (some v1)) C d_T_fillOutcome_21 rfl rfl ?_
      replace h := g_ob h; obtain ⟨x18, e_x18, h⟩ := h
      refine r_getR C f_T_86 d_T_fillOutcome_22 e_x18 ?_
      refine r_iload (x := v4) C d_T_fillOutcome_25 rfl ?_
      replace h := g_ob h; obtain ⟨a19, rfl, h⟩ := h
      replace h := g_ob h; obtain ⟨x20, e_x20, h⟩ := h
      refine r_lald C ak_101 d_T_fillOutcome_27 e_x20 ?_
      refine r_ladd C d_T_fillOutcome_28 ?_
      refine r_lstore_n (lv' := [(2, tJ (((31 : Int64) * v2) + x20)), (0, tR (some v0)), (1, tR (some v1)), (4, tI v4)]) C d_T_fillOutcome_29 rfl (by decide) rfl ?_
      refine r_iinc (x := v4) (v := v4 + (1 : Int32)) (lv' := [(4, tI (v4 + (1 : Int32))), (2, tJ (((31 : Int64) * v2) + x20)), (0, tR (some v0)), (1, tR (some v1))]) C d_T_fillOutcome_30 rfl rfl (by decide) rfl ?_
      refine r_goto C 7 d_T_fillOutcome_33 (by decide) ?_
      refine r_lv [2, 3, 1, 0] rfl ?_
      exact ih v0 v1 (((31 : Int64) * v2) + x20) (v4 + (1 : Int32)) V h
set_option maxHeartbeats 4000000 in
set_option maxRecDepth 100000 in
theorem t_T_fillOutcome_0 (C : gC E base p s m args meth c b_T_fillOutcome R_T 5) (hr : meth.sig.returnType = none) {z : Unit × gV} (h0 : Nat) (p1 : Nat) (V : gV) (h : D_T_fillOutcome h0 p1 L V = some z) : vW E base base 5 p l e rm_T_fillOutcome s m args below meth c 0 0 (g_MQ E base base below args s 0 0 L z.2 none) L V 0 [(0, tR (some h0)), (1, tR (some p1))] [] := by
  unfold D_T_fillOutcome at h
  refine r_ldc2 C (17 : Int64) d_T_fillOutcome_0 w_55 ?_
  refine r_lstore_n (lv' := [(2, tJ (17 : Int64)), (0, tR (some h0)), (1, tR (some p1))]) C d_T_fillOutcome_3 rfl (by decide) rfl ?_
  refine r_iconst C (0 : Int32) d_T_fillOutcome_4 (by decide) ?_
  refine r_istore (lv' := [(4, tI (0 : Int32)), (2, tJ (17 : Int64)), (0, tR (some h0)), (1, tR (some p1))]) C d_T_fillOutcome_5 (by decide) rfl ?_
  refine r_lv [2, 3, 1, 0] rfl ?_
  exact t_T_fillOutcome_7 C hr  1000 h0 p1 (17 : Int64) (0 : Int32) V h
theorem c_T_fillOutcome (l : Launch) (E : gE) (base : Nat) (h0 : Nat) (p1 : Nat) (L : gL) (V : gV) {z : Unit × gV} (h : D_T_fillOutcome h0 p1 L V = some z) : g_Met l E base base y_T_fillOutcome b_T_fillOutcome 5 none rm_T_fillOutcome [tR (some h0), tR (some p1)] L V none L z.2 :=
  r_enter R_T (by decide) rfl [tR (some h0), tR (some p1)] [(0, tR (some h0)), (1, tR (some p1))] rfl (Nat.le_of_ble_eq_true rfl) (fun p e s m args below meth c C hr hnm => t_T_fillOutcome_0 C hr h0 p1 V h)
def rm_T_redo : Room := { frames := 2, cells := 0, slots := 0, locals := 46 }
def D_T_redo_61 (L : gL) (v0 : Nat) (v2 : Nat) (V : gV) : Option (Unit × gV) :=
  Option.bind (g_wr L V 2 v0 6 (tI (0 : Int32))) fun V1 =>
    Option.bind ((L).2 0 v2) fun n7 =>
    g_b2 (D_N_hasFailed v2 L V1) fun r2 V3 =>
    (if r2 = 0 then
    Option.bind (g_wr L V3 2 v0 9 (tI (2 : Int32))) fun V4 =>
    some ((), V4)
  else
    Option.bind (g_wr L V3 2 v0 9 (tI (3 : Int32))) fun V5 =>
    some ((), V5))
def D_T_redo (h0 : Nat) (p1 : Int32) (L : gL) (V : gV) : Option (Unit × gV) :=
  Option.bind ((L).2 2 h0) fun n28 =>
    g_b2 (D_T_spareEntry h0 L V) fun r1 V2 =>
    Option.bind r1 fun a3 =>
    Option.bind ((L).2 2 h0) fun n27 =>
    g_b2 (D_T_fillOutcome h0 a3 L V2) fun r4 V5 =>
    (if p1 = (-1 : Int32) then
    Option.bind ((L).2 2 h0) fun n25 =>
    g_b2 (D_T_bringFirst h0 (3 : Int32) L V5) fun r21 V22 =>
    Option.bind (g_rI L V22 2 h0 5) fun x23 =>
    Option.bind (g_wr L V22 2 h0 5 (tI (if (3 : Int32) < (x23 + (1 : Int32)) then (3 : Int32) else x23 + (1 : Int32)))) fun V24 =>
    D_T_redo_61 L  h0 a3 V24
  else
    Option.bind (g_rR L V5 2 h0 4) fun x6 =>
    Option.bind (g_rR L V5 2 h0 4) fun x7 =>
    Option.bind x7 fun a8 =>
    Option.bind (g_aR L V5 105 a8 p1) fun x9 =>
    Option.bind x6 fun a10 =>
    Option.bind x9 fun a11 =>
    Option.bind ((L).2 0 a11) fun n20 =>
    Option.bind (g_wa L V5 105 a10 (3 : Int32) (tR (some a11))) fun V12 =>
    Option.bind (g_rR L V12 2 h0 4) fun x13 =>
    Option.bind x13 fun a14 =>
    Option.bind ((L).2 0 a3) fun n19 =>
    Option.bind (g_wa L V12 105 a14 p1 (tR (some a3))) fun V15 =>
    Option.bind ((L).2 2 h0) fun n18 =>
    g_b2 (D_T_bringFirst h0 p1 L V15) fun r16 V17 =>
    D_T_redo_61 L  h0 a3 V17)
set_option maxHeartbeats 4000000 in
set_option maxRecDepth 100000 in
theorem t_T_redo_61 (C : gC E base p s m args meth c b_T_redo R_T 3) (hr : meth.sig.returnType = none) {z : Unit × gV} (v0 : Nat) (v2 : Nat) (V : gV) (h : D_T_redo_61 L  v0 v2 V = some z) : vW E base base 3 p l e rm_T_redo s m args below meth c 0 0 (g_MQ E base base below args s 0 0 L z.2 none) L V 61 [(0, tR (some v0)), (2, tR (some v2))] [] := by
  unfold D_T_redo_61 at h
  refine r_aload_n (x := (some v0)) C d_T_redo_61 rfl rfl ?_
  refine r_iconst C (0 : Int32) d_T_redo_62 (by decide) ?_
  replace h := g_ob h; obtain ⟨V1, e_V1, h⟩ := h
  refine r_put C f_T_28 d_T_redo_63 e_V1 (g_nZ (x := (0 : Int32)) (Or.inl rfl)).1 (g_nZ (x := (0 : Int32)) (Or.inl rfl)).2 ?_
  refine r_aload_n (x := (some v0)) C d_T_redo_66 rfl rfl ?_
  refine r_aload_n (x := (some v2)) C d_T_redo_67 rfl rfl ?_
  replace h := g_ob h; obtain ⟨n7, e_n7, h⟩ := h
  replace h := g_o2 h; obtain ⟨r2, V3, e_r2, h⟩ := h
  refine r_callV (As := []) C k_T_64 w_49 w_50 w_47 ⟨_, _, rfl⟩ (c_N_hasFailed l E base base v2 L V1 e_r2) d_T_redo_68 e_n7 rfl ⟨Nat.le_of_ble_eq_true rfl, Nat.le_of_ble_eq_true rfl⟩ (Nat.le_of_ble_eq_true rfl) (Nat.le_of_ble_eq_true rfl) (Nat.le_of_ble_eq_true rfl) rfl ?_
  refine r_if_eq C 78 d_T_redo_71 (by decide) (fun c6 => ?_) (fun c6 => ?_)
  · rw [if_pos c6] at h
    refine r_iconst C (2 : Int32) d_T_redo_78 (by decide) ?_
    replace h := g_ob h; obtain ⟨V4, e_V4, h⟩ := h
    refine r_put C f_T_38 d_T_redo_79 e_V4 (g_nI (2 : Int32)).1 (g_nI (2 : Int32)).2 ?_
    cases h
    exact r_vret C hr d_T_redo_82
  · rw [if_neg c6] at h
    refine r_iconst C (3 : Int32) d_T_redo_74 (by decide) ?_
    refine r_goto C 79 d_T_redo_75 (by decide) ?_
    replace h := g_ob h; obtain ⟨V5, e_V5, h⟩ := h
    refine r_put C f_T_38 d_T_redo_79 e_V5 (g_nI (3 : Int32)).1 (g_nI (3 : Int32)).2 ?_
    cases h
    exact r_vret C hr d_T_redo_82
set_option maxHeartbeats 4000000 in
set_option maxRecDepth 100000 in
theorem t_T_redo_0 (C : gC E base p s m args meth c b_T_redo R_T 3) (hr : meth.sig.returnType = none) {z : Unit × gV} (h0 : Nat) (p1 : Int32) (V : gV) (h : D_T_redo h0 p1 L V = some z) : vW E base base 3 p l e rm_T_redo s m args below meth c 0 0 (g_MQ E base base below args s 0 0 L z.2 none) L V 0 [(0, tR (some h0)), (1, tI p1)] [] := by
  unfold D_T_redo at h
  refine r_aload_n (x := (some h0)) C d_T_redo_0 rfl rfl ?_
  replace h := g_ob h; obtain ⟨n28, e_n28, h⟩ := h
  replace h := g_o2 h; obtain ⟨r1, V2, e_r1, h⟩ := h
  refine r_callV (As := []) C k_T_68 w_73 w_74 w_53 ⟨_, _, rfl⟩ (c_T_spareEntry l E base base h0 L V e_r1) d_T_redo_1 e_n28 rfl ⟨Nat.le_of_ble_eq_true rfl, Nat.le_of_ble_eq_true rfl⟩ (Nat.le_of_ble_eq_true rfl) (Nat.le_of_ble_eq_true rfl) (Nat.le_of_ble_eq_true rfl) rfl ?_
  refine r_astore_n (lv' := [(2, tR r1), (0, tR (some h0)), (1, tI p1)]) C d_T_redo_4 rfl (by decide) rfl ?_
  refine r_aload_n (x := (some h0)) C d_T_redo_5 rfl rfl ?_
  refine r_aload_n (x := r1) C d_T_redo_6 rfl rfl ?_
  replace h := g_ob h; obtain ⟨a3, rfl, h⟩ := h
  replace h := g_ob h; obtain ⟨n27, e_n27, h⟩ := h
  replace h := g_o2 h; obtain ⟨r4, V5, e_r4, h⟩ := h
  refine r_callV (As := [tR (some a3)]) C k_T_72 w_71 w_72 w_65 ⟨_, _, rfl⟩ (c_T_fillOutcome l E base h0 a3 L V2 e_r4) d_T_redo_7 e_n27 rfl ⟨Nat.le_of_ble_eq_true rfl, Nat.le_of_ble_eq_true rfl⟩ (Nat.le_of_ble_eq_true rfl) (Nat.le_of_ble_eq_true rfl) (Nat.le_of_ble_eq_true rfl) rfl ?_
  refine r_iload_n (x := p1) C d_T_redo_10 rfl rfl ?_
  refine r_iconst C (-1 : Int32) d_T_redo_11 (by decide) ?_
  refine r_icmp_ne C 37 d_T_redo_12 (by decide) (fun c26 => ?_) (fun c26 => ?_)
  · rw [if_neg c26] at h
    refine r_aload_n (x := (some h0)) C d_T_redo_37 rfl rfl ?_
    replace h := g_ob h; obtain ⟨x6, e_x6, h⟩ := h
    refine r_getR C f_T_21 d_T_redo_38 e_x6 ?_
    refine r_iconst C (3 : Int32) d_T_redo_41 (by decide) ?_
    refine r_aload_n (x := (some h0)) C d_T_redo_42 rfl rfl ?_
    replace h := g_ob h; obtain ⟨x7, e_x7, h⟩ := h
    refine r_getR C f_T_21 d_T_redo_43 e_x7 ?_
    refine r_iload_n (x := p1) C d_T_redo_46 rfl rfl ?_
    replace h := g_ob h; obtain ⟨a8, rfl, h⟩ := h
    replace h := g_ob h; obtain ⟨x9, e_x9, h⟩ := h
    refine r_aald C ak_105 rfl d_T_redo_47 e_x9 ?_
    replace h := g_ob h; obtain ⟨a10, rfl, h⟩ := h
    replace h := g_ob h; obtain ⟨a11, rfl, h⟩ := h
    replace h := g_ob h; obtain ⟨n20, e_n20, h⟩ := h
    replace h := g_ob h; obtain ⟨V12, e_V12, h⟩ := h
    refine r_aast C ak_105 ⟨_, _, rfl⟩ d_T_redo_48 e_n20 e_V12 ?_
    refine r_aload_n (x := (some h0)) C d_T_redo_49 rfl rfl ?_
    replace h := g_ob h; obtain ⟨x13, e_x13, h⟩ := h
    refine r_getR C f_T_21 d_T_redo_50 e_x13 ?_
    refine r_iload_n (x := p1) C d_T_redo_53 rfl rfl ?_
    refine r_aload_n (x := (some a3)) C d_T_redo_54 rfl rfl ?_
    replace h := g_ob h; obtain ⟨a14, rfl, h⟩ := h
    replace h := g_ob h; obtain ⟨n19, e_n19, h⟩ := h
    replace h := g_ob h; obtain ⟨V15, e_V15, h⟩ := h
    refine r_aast C ak_105 ⟨_, _, rfl⟩ d_T_redo_55 e_n19 e_V15 ?_
    refine r_aload_n (x := (some h0)) C d_T_redo_56 rfl rfl ?_
    refine r_iload_n (x := p1) C d_T_redo_57 rfl rfl ?_
    replace h := g_ob h; obtain ⟨n18, e_n18, h⟩ := h
    replace h := g_o2 h; obtain ⟨r16, V17, e_r16, h⟩ := h
    refine r_callV (As := [tI p1]) C k_T_60 w_51 w_52 w_45 ⟨_, _, rfl⟩ (c_T_bringFirst l E base h0 p1 L V15 e_r16) d_T_redo_58 e_n18 rfl ⟨Nat.le_of_ble_eq_true rfl, Nat.le_of_ble_eq_true rfl⟩ (Nat.le_of_ble_eq_true rfl) (Nat.le_of_ble_eq_true rfl) (Nat.le_of_ble_eq_true rfl) rfl ?_
    refine r_lv [1, 0] rfl ?_
    exact t_T_redo_61 C hr  h0 a3 V17 h
  · rw [if_pos c26] at h
    refine r_aload_n (x := (some h0)) C d_T_redo_15 rfl rfl ?_
    refine r_iconst C (3 : Int32) d_T_redo_16 (by decide) ?_
    replace h := g_ob h; obtain ⟨n25, e_n25, h⟩ := h
    replace h := g_o2 h; obtain ⟨r21, V22, e_r21, h⟩ := h
    refine r_callV (As := [tI (3 : Int32)]) C k_T_60 w_51 w_52 w_45 ⟨_, _, rfl⟩ (c_T_bringFirst l E base h0 (3 : Int32) L V5 e_r21) d_T_redo_17 e_n25 rfl ⟨Nat.le_of_ble_eq_true rfl, Nat.le_of_ble_eq_true rfl⟩ (Nat.le_of_ble_eq_true rfl) (Nat.le_of_ble_eq_true rfl) (Nat.le_of_ble_eq_true rfl) rfl ?_
    refine r_aload_n (x := (some h0)) C d_T_redo_20 rfl rfl ?_
    refine r_aload_n (x := (some h0)) C d_T_redo_21 rfl rfl ?_
    replace h := g_ob h; obtain ⟨x23, e_x23, h⟩ := h
    refine r_getI C f_T_25 d_T_redo_22 e_x23 ?_
    refine r_iconst C (1 : Int32) d_T_redo_25 (by decide) ?_
    refine r_iadd C d_T_redo_26 ?_
    refine r_iconst C (3 : Int32) d_T_redo_27 (by decide) ?_
    refine r_mmin C w_67 w_68 w_69 w_70 d_T_redo_28 (Nat.le_of_ble_eq_true rfl) (Nat.le_of_ble_eq_true rfl) (Nat.le_of_ble_eq_true rfl) (Nat.le_of_ble_eq_true rfl) ?_
    replace h := g_ob h; obtain ⟨V24, e_V24, h⟩ := h
    refine r_put C f_T_25 d_T_redo_31 e_V24 (g_nI (if (3 : Int32) < (x23 + (1 : Int32)) then (3 : Int32) else x23 + (1 : Int32))).1 (g_nI (if (3 : Int32) < (x23 + (1 : Int32)) then (3 : Int32) else x23 + (1 : Int32))).2 ?_
    refine r_goto C 61 d_T_redo_34 (by decide) ?_
    refine r_lv [1, 0] rfl ?_
    exact t_T_redo_61 C hr  h0 a3 V24 h
theorem c_T_redo (l : Launch) (E : gE) (base : Nat) (h0 : Nat) (p1 : Int32) (L : gL) (V : gV) {z : Unit × gV} (h : D_T_redo h0 p1 L V = some z) : g_Met l E base base y_T_redo b_T_redo 3 none rm_T_redo [tR (some h0), tI p1] L V none L z.2 :=
  r_enter R_T (by decide) rfl [tR (some h0), tI p1] [(0, tR (some h0)), (1, tI p1)] rfl (Nat.le_of_ble_eq_true rfl) (fun p e s m args below meth c C hr hnm => t_T_redo_0 C hr h0 p1 V h)
end GC1
