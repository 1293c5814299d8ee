/-! METHODS (by program): GC4 -/
section GC4
variable {E : gE} {base bA : Nat} {p : Program} {l : Launch} {e : Env} {s : State} {m : MethodId} {args : Array Value} {below : List Frame} {meth : Method} {c : Code} {L : gL}
def rm_A_output : Room := { frames := 6, cells := 1, slots := 6, locals := 82 }
def D_A_output_17 (L : gL)  (V : gV) : Option ((Int64 ⊕ Nat) × gV) :=
  some (.inr 0, V)
def D_A_output_47 (L : gL)  (V : gV) : Option ((Int64 ⊕ Nat) × gV) :=
  some (.inr 1, V)
def D_A_output (h0 : Nat) (p1 : Int32) (p2 : Int32) (L : gL) (V : gV) : Option ((Int64 ⊕ Nat) × gV) :=
  Option.bind ((L).2 3 h0) fun n18 =>
    g_b2 (D_A_stepAt h0 p1 L V) fun r1 V2 =>
    (g_on r1
    (D_A_output_17 L   V2)
    (fun a3 =>
    g_b2 (D_A_isPart p2 L V2) fun r4 V5 =>
    (if r4 = 0 then
    D_A_output_17 L   V5
  else
    Option.bind ((L).2 2 a3) fun n16 =>
    g_b2 (D_T_entryAt a3 (0 : Int32) L V5) fun r6 V7 =>
    (g_on r6
    (D_A_output_47 L   V7)
    (fun a8 =>
    Option.bind ((L).2 0 a8) fun n15 =>
    g_b2 (D_N_hasFailed a8 L V7) fun r9 V10 =>
    (if r9 = 0 then
    Option.bind ((L).2 0 a8) fun n13 =>
    g_b2 (D_N_partOfOutput a8 p2 L V10) fun r11 V12 =>
    some (.inl r11, V12)
  else
    D_A_output_47 L   V10))))))
set_option maxHeartbeats 4000000 in
set_option maxRecDepth 100000 in
theorem t_A_output_17 (C : gC E bA p s m args meth c b_A_output R_A 5) (hr : meth.sig.returnType = (some .long)) {zx : Int64} {zV : gV}  (V : gV) (h : D_A_output_17 L   V = some (.inl zx, zV)) : vW E base bA 5 p l e rm_A_output s m args below meth c 0 0 (g_MQ E base bA below args s 1 6 L zV (some (tJ zx))) L V 17 [] [] := by
  unfold D_A_output_17 at h
  cases h
set_option maxHeartbeats 4000000 in
set_option maxRecDepth 100000 in
theorem t_A_output_47 (C : gC E bA p s m args meth c b_A_output R_A 5) (hr : meth.sig.returnType = (some .long)) {zx : Int64} {zV : gV}  (V : gV) (h : D_A_output_47 L   V = some (.inl zx, zV)) : vW E base bA 5 p l e rm_A_output s m args below meth c 0 0 (g_MQ E base bA below args s 1 6 L zV (some (tJ zx))) L V 47 [] [] := by
  unfold D_A_output_47 at h
  cases h
set_option maxHeartbeats 4000000 in
set_option maxRecDepth 100000 in
theorem t_A_output_0 (C : gC E bA p s m args meth c b_A_output R_A 5) (hr : meth.sig.returnType = (some .long)) {zx : Int64} {zV : gV} (h0 : Nat) (p1 : Int32) (p2 : Int32) (V : gV) (h : D_A_output h0 p1 p2 L V = some (.inl zx, zV)) : vW E base bA 5 p l e rm_A_output s m args below meth c 0 0 (g_MQ E base bA below args s 1 6 L zV (some (tJ zx))) L V 0 [(0, tR (some h0)), (1, tI p1), (2, tI p2)] [] := by
  unfold D_A_output at h
  refine r_aload_n (x := (some h0)) C d_A_output_0 rfl rfl ?_
  refine r_iload_n (x := p1) C d_A_output_1 rfl rfl ?_
  replace h := g_ob h; obtain ⟨n18, e_n18, h⟩ := h
  replace h := g_o2 h; obtain ⟨r1, V2, e_r1, h⟩ := h
  refine r_callV (As := [tI p1]) C k_A_59 w_111 w_112 w_102 ⟨_, _, rfl⟩ (c_A_stepAt l E base bA h0 p1 L V e_r1) d_A_output_2 e_n18 rfl ⟨Nat.le_of_ble_eq_true rfl, Nat.le_of_ble_eq_true rfl⟩ (Nat.le_of_ble_eq_true rfl) (Nat.le_of_ble_eq_true rfl) (Nat.le_of_ble_eq_true rfl) rfl ?_
  refine r_astore_n (lv' := [(3, tR r1), (0, tR (some h0)), (1, tI p1), (2, tI p2)]) C d_A_output_5 rfl (by decide) rfl ?_
  refine r_aload_n (x := r1) C d_A_output_6 rfl rfl ?_
  replace h := g_oon h; rcases h with ⟨rfl, h⟩ | ⟨a3, rfl, h⟩
  · refine r_ifnull_t C 17 d_A_output_7 (by decide) ?_
    refine r_lv [] rfl ?_
    exact t_A_output_17 C hr   V2 h
  · refine r_ifnull_f C d_A_output_7 ?_
    refine r_iload_n (x := p2) C d_A_output_10 rfl rfl ?_
    replace h := g_o2 h; obtain ⟨r4, V5, e_r4, h⟩ := h
    refine r_callS (As := [tI p2]) C k_A_71 w_118 w_113 (c_A_isPart l E base bA p2 L V2 e_r4) d_A_output_11 rfl ⟨Nat.le_of_ble_eq_true rfl, Nat.le_of_ble_eq_true rfl⟩ (Nat.le_of_ble_eq_true rfl) (Nat.le_of_ble_eq_true rfl) (Nat.le_of_ble_eq_true rfl) rfl ?_
    refine r_if_ne C 27 d_A_output_14 (by decide) (fun c17 => ?_) (fun c17 => ?_)
    · rw [if_neg c17] at h
      refine r_aload_n (x := (some a3)) C d_A_output_27 rfl rfl ?_
      refine r_iconst C (0 : Int32) d_A_output_28 (by decide) ?_
      replace h := g_ob h; obtain ⟨n16, e_n16, h⟩ := h
      replace h := g_o2 h; obtain ⟨r6, V7, e_r6, h⟩ := h
      refine r_callV (As := [tI (0 : Int32)]) C k_A_108 w_148 w_149 w_146 ⟨_, _, rfl⟩ (c_T_entryAt l E base bA a3 (0 : Int32) L V5 e_r6) d_A_output_29 e_n16 rfl ⟨Nat.le_of_ble_eq_true rfl, Nat.le_of_ble_eq_true rfl⟩ (Nat.le_of_ble_eq_true rfl) (Nat.le_of_ble_eq_true rfl) (Nat.le_of_ble_eq_true rfl) rfl ?_
      refine r_astore (lv' := [(4, tR r6), (3, tR (some a3)), (0, tR (some h0)), (1, tI p1), (2, tI p2)]) C d_A_output_32 (by decide) rfl ?_
      refine r_aload (x := r6) C d_A_output_34 rfl ?_
      replace h := g_oon h; rcases h with ⟨rfl, h⟩ | ⟨a8, rfl, h⟩
      · refine r_ifnull_t C 47 d_A_output_36 (by decide) ?_
        refine r_lv [] rfl ?_
        exact t_A_output_47 C hr   V7 h
      · refine r_ifnull_f C d_A_output_36 ?_
        refine r_aload (x := (some a8)) C d_A_output_39 rfl ?_
        replace h := g_ob h; obtain ⟨n15, e_n15, h⟩ := h
        replace h := g_o2 h; obtain ⟨r9, V10, e_r9, h⟩ := h
        refine r_callV (As := []) C k_A_112 w_49 w_50 w_47 ⟨_, _, rfl⟩ (c_N_hasFailed l E base bA a8 L V7 e_r9) d_A_output_41 e_n15 rfl ⟨Nat.le_of_ble_eq_true rfl, Nat.le_of_ble_eq_true rfl⟩ (Nat.le_of_ble_eq_true rfl) (Nat.le_of_ble_eq_true rfl) (Nat.le_of_ble_eq_true rfl) rfl ?_
        refine r_if_eq C 57 d_A_output_44 (by decide) (fun c14 => ?_) (fun c14 => ?_)
        · rw [if_pos c14] at h
          refine r_aload (x := (some a8)) C d_A_output_57 rfl ?_
          refine r_iload_n (x := p2) C d_A_output_59 rfl rfl ?_
          replace h := g_ob h; obtain ⟨n13, e_n13, h⟩ := h
          replace h := g_o2 h; obtain ⟨r11, V12, e_r11, h⟩ := h
          refine r_callV (As := [tI p2]) C k_A_123 w_157 w_158 w_155 ⟨_, _, rfl⟩ (c_N_partOfOutput l E base bA a8 p2 L V10 e_r11) d_A_output_60 e_n13 rfl ⟨Nat.le_of_ble_eq_true rfl, Nat.le_of_ble_eq_true rfl⟩ (Nat.le_of_ble_eq_true rfl) (Nat.le_of_ble_eq_true rfl) (Nat.le_of_ble_eq_true rfl) rfl ?_
          cases h
          refine r_wid (k := 1) (n := 6) (Nat.le_of_ble_eq_true rfl) (Nat.le_of_ble_eq_true rfl) ?_
          exact r_lret C hr d_A_output_63
        · rw [if_neg c14] at h
          refine r_lv [] rfl ?_
          exact t_A_output_47 C hr   V10 h
    · rw [if_pos c17] at h
      refine r_lv [] rfl ?_
      exact t_A_output_17 C hr   V5 h
set_option maxHeartbeats 4000000 in
set_option maxRecDepth 100000 in
theorem tT_A_output_17 (C : gC E bA p s m args meth c b_A_output R_A 5) (hr : meth.sig.returnType = (some .long)) {zk : Nat} {zV : gV} {sa : Nat → Nat} (hfl : l.flags = flags0) (hT : g_T sa base s) (hnh : c.exceptionTable.isEmpty = true) (hbs : bA = s.heap.size) (hLs : L.1 = s.heap.size)  (V : gV) (h : D_A_output_17 L   V = some (.inr zk, zV)) : vW E base bA 5 p l e rm_A_output s m args below meth c 0 0 (xQ below args s (g_X zk) 1 6) L V 17 [] [] := by
  unfold D_A_output_17 at h
  cases h
  exact r_throw hfl C hT hnh hbs 0 (by decide) (by decide +kernel) w_223 w_224 w_225 g_own0 d_A_output_17 d_A_output_20 d_A_output_21 d_A_output_23 d_A_output_26 (Nat.le_of_ble_eq_true rfl) (Nat.le_of_ble_eq_true rfl) (Nat.le_of_ble_eq_true rfl) (Nat.le_of_ble_eq_true rfl) hLs
set_option maxHeartbeats 4000000 in
set_option maxRecDepth 100000 in
theorem tT_A_output_47 (C : gC E bA p s m args meth c b_A_output R_A 5) (hr : meth.sig.returnType = (some .long)) {zk : Nat} {zV : gV} {sa : Nat → Nat} (hfl : l.flags = flags0) (hT : g_T sa base s) (hnh : c.exceptionTable.isEmpty = true) (hbs : bA = s.heap.size) (hLs : L.1 = s.heap.size)  (V : gV) (h : D_A_output_47 L   V = some (.inr zk, zV)) : vW E base bA 5 p l e rm_A_output s m args below meth c 0 0 (xQ below args s (g_X zk) 1 6) L V 47 [] [] := by
  unfold D_A_output_47 at h
  cases h
  exact r_throw hfl C hT hnh hbs 1 (by decide) (by decide +kernel) w_226 w_227 w_228 g_own1 d_A_output_47 d_A_output_50 d_A_output_51 d_A_output_53 d_A_output_56 (Nat.le_of_ble_eq_true rfl) (Nat.le_of_ble_eq_true rfl) (Nat.le_of_ble_eq_true rfl) (Nat.le_of_ble_eq_true rfl) hLs
set_option maxHeartbeats 4000000 in
set_option maxRecDepth 100000 in
theorem tT_A_output_0 (C : gC E bA p s m args meth c b_A_output R_A 5) (hr : meth.sig.returnType = (some .long)) {zk : Nat} {zV : gV} {sa : Nat → Nat} (hfl : l.flags = flags0) (hT : g_T sa base s) (hnh : c.exceptionTable.isEmpty = true) (hbs : bA = s.heap.size) (hLs : L.1 = s.heap.size) (h0 : Nat) (p1 : Int32) (p2 : Int32) (V : gV) (h : D_A_output h0 p1 p2 L V = some (.inr zk, zV)) : vW E base bA 5 p l e rm_A_output s m args below meth c 0 0 (xQ below args s (g_X zk) 1 6) L V 0 [(0, tR (some h0)), (1, tI p1), (2, tI p2)] [] := by
  unfold D_A_output at h
  refine r_aload_n (x := (some h0)) C d_A_output_0 rfl rfl ?_
  refine r_iload_n (x := p1) C d_A_output_1 rfl rfl ?_
  replace h := g_ob h; obtain ⟨n18, e_n18, h⟩ := h
  replace h := g_o2 h; obtain ⟨r1, V2, e_r1, h⟩ := h
  refine r_callV (As := [tI p1]) C k_A_59 w_111 w_112 w_102 ⟨_, _, rfl⟩ (c_A_stepAt l E base bA h0 p1 L V e_r1) d_A_output_2 e_n18 rfl ⟨Nat.le_of_ble_eq_true rfl, Nat.le_of_ble_eq_true rfl⟩ (Nat.le_of_ble_eq_true rfl) (Nat.le_of_ble_eq_true rfl) (Nat.le_of_ble_eq_true rfl) rfl ?_
  refine r_astore_n (lv' := [(3, tR r1), (0, tR (some h0)), (1, tI p1), (2, tI p2)]) C d_A_output_5 rfl (by decide) rfl ?_
  refine r_aload_n (x := r1) C d_A_output_6 rfl rfl ?_
  replace h := g_oon h; rcases h with ⟨rfl, h⟩ | ⟨a3, rfl, h⟩
  · refine r_ifnull_t C 17 d_A_output_7 (by decide) ?_
    refine r_lv [] rfl ?_
    exact tT_A_output_17 C hr hfl hT hnh hbs hLs   V2 h
  · refine r_ifnull_f C d_A_output_7 ?_
    refine r_iload_n (x := p2) C d_A_output_10 rfl rfl ?_
    replace h := g_o2 h; obtain ⟨r4, V5, e_r4, h⟩ := h
    refine r_callS (As := [tI p2]) C k_A_71 w_118 w_113 (c_A_isPart l E base bA p2 L V2 e_r4) d_A_output_11 rfl ⟨Nat.le_of_ble_eq_true rfl, Nat.le_of_ble_eq_true rfl⟩ (Nat.le_of_ble_eq_true rfl) (Nat.le_of_ble_eq_true rfl) (Nat.le_of_ble_eq_true rfl) rfl ?_
    refine r_if_ne C 27 d_A_output_14 (by decide) (fun c17 => ?_) (fun c17 => ?_)
    · rw [if_neg c17] at h
      refine r_aload_n (x := (some a3)) C d_A_output_27 rfl rfl ?_
      refine r_iconst C (0 : Int32) d_A_output_28 (by decide) ?_
      replace h := g_ob h; obtain ⟨n16, e_n16, h⟩ := h
      replace h := g_o2 h; obtain ⟨r6, V7, e_r6, h⟩ := h
      refine r_callV (As := [tI (0 : Int32)]) C k_A_108 w_148 w_149 w_146 ⟨_, _, rfl⟩ (c_T_entryAt l E base bA a3 (0 : Int32) L V5 e_r6) d_A_output_29 e_n16 rfl ⟨Nat.le_of_ble_eq_true rfl, Nat.le_of_ble_eq_true rfl⟩ (Nat.le_of_ble_eq_true rfl) (Nat.le_of_ble_eq_true rfl) (Nat.le_of_ble_eq_true rfl) rfl ?_
      refine r_astore (lv' := [(4, tR r6), (3, tR (some a3)), (0, tR (some h0)), (1, tI p1), (2, tI p2)]) C d_A_output_32 (by decide) rfl ?_
      refine r_aload (x := r6) C d_A_output_34 rfl ?_
      replace h := g_oon h; rcases h with ⟨rfl, h⟩ | ⟨a8, rfl, h⟩
      · refine r_ifnull_t C 47 d_A_output_36 (by decide) ?_
        refine r_lv [] rfl ?_
        exact tT_A_output_47 C hr hfl hT hnh hbs hLs   V7 h
      · refine r_ifnull_f C d_A_output_36 ?_
        refine r_aload (x := (some a8)) C d_A_output_39 rfl ?_
        replace h := g_ob h; obtain ⟨n15, e_n15, h⟩ := h
        replace h := g_o2 h; obtain ⟨r9, V10, e_r9, h⟩ := h
        refine r_callV (As := []) C k_A_112 w_49 w_50 w_47 ⟨_, _, rfl⟩ (c_N_hasFailed l E base bA a8 L V7 e_r9) d_A_output_41 e_n15 rfl ⟨Nat.le_of_ble_eq_true rfl, Nat.le_of_ble_eq_true rfl⟩ (Nat.le_of_ble_eq_true rfl) (Nat.le_of_ble_eq_true rfl) (Nat.le_of_ble_eq_true rfl) rfl ?_
        refine r_if_eq C 57 d_A_output_44 (by decide) (fun c14 => ?_) (fun c14 => ?_)
        · rw [if_pos c14] at h
          refine r_aload (x := (some a8)) C d_A_output_57 rfl ?_
          refine r_iload_n (x := p2) C d_A_output_59 rfl rfl ?_
          replace h := g_ob h; obtain ⟨n13, e_n13, h⟩ := h
          replace h := g_o2 h; obtain ⟨r11, V12, e_r11, h⟩ := h
          refine r_callV (As := [tI p2]) C k_A_123 w_157 w_158 w_155 ⟨_, _, rfl⟩ (c_N_partOfOutput l E base bA a8 p2 L V10 e_r11) d_A_output_60 e_n13 rfl ⟨Nat.le_of_ble_eq_true rfl, Nat.le_of_ble_eq_true rfl⟩ (Nat.le_of_ble_eq_true rfl) (Nat.le_of_ble_eq_true rfl) (Nat.le_of_ble_eq_true rfl) rfl ?_
          cases h
        · rw [if_neg c14] at h
          refine r_lv [] rfl ?_
          exact tT_A_output_47 C hr hfl hT hnh hbs hLs   V10 h
    · rw [if_pos c17] at h
      refine r_lv [] rfl ?_
      exact tT_A_output_17 C hr hfl hT hnh hbs hLs   V5 h
theorem c_A_output (l : Launch) (E : gE) (base bA : Nat) (h0 : Nat) (p1 : Int32) (p2 : Int32) (L : gL) (V : gV) {zx : Int64} {zV : gV} (h : D_A_output h0 p1 p2 L V = some (.inl zx, zV)) : g_Met l E base bA y_A_output b_A_output 5 (some .long) rm_A_output [tR (some h0), tI p1, tI p2] L V (some (tJ zx)) L zV :=
  r_enter R_A (by decide) rfl [tR (some h0), tI p1, tI p2] [(0, tR (some h0)), (1, tI p1), (2, tI p2)] rfl (Nat.le_of_ble_eq_true rfl) (fun p e s m args below meth c C hr hnm => t_A_output_0 C hr h0 p1 p2 V h)
theorem cT_A_output (l : Launch) (hfl : l.flags = flags0) (E : gE) (base : Nat) (sa : Nat → Nat) (h0 : Nat) (p1 : Int32) (p2 : Int32) (L : gL) (V : gV) {zk : Nat} {zV : gV} (h : D_A_output h0 p1 p2 L V = some (.inr zk, zV)) : g_MetT l E base sa y_A_output b_A_output 5 (some .long) rm_A_output [tR (some h0), tI p1, tI p2] L V (g_X zk) :=
  r_enterT R_A (by decide) rfl [tR (some h0), tI p1, tI p2] [(0, tR (some h0)), (1, tI p1), (2, tI p2)] rfl (Nat.le_of_ble_eq_true rfl) (fun p e s m args below meth c C hr hT hnh hLs => tT_A_output_0 C hr hfl hT hnh hLs hLs h0 p1 p2 V h)
def rm_A_share : Room := { frames := 6, cells := 1, slots := 6, locals := 82 }
def D_A_share_4 (L : gL) : Nat → Nat → Int32 → Int32 → gV → Option ((Int32 ⊕ Nat) × gV)
  | 0, _, _, _, _ => none
  | n + 1, v0, v1, v2, V =>
  (if (4 : Int32) ≤ v2 then
    (if v1 = 0 then
    some (.inr 2, V)
  else
    Option.bind (g_rI L V 3 v0 6) fun x1 =>
    (if v1 = 0 then none else
    some (.inl (((1000 : Int32) * x1) / v1), V)))
  else
    Option.bind (g_rR L V 3 v0 5) fun x4 =>
    Option.bind x4 fun a5 =>
    Option.bind (g_aI L V 100 a5 v2) fun x6 =>
    D_A_share_4 L  n v0 (v1 + x6) (v2 + (1 : Int32)) V)
def D_A_share (h0 : Nat) (L : gL) (V : gV) : Option ((Int32 ⊕ Nat) × gV) :=
  D_A_share_4 L  1000 h0 (0 : Int32) (0 : Int32) V
set_option maxHeartbeats 4000000 in
set_option maxRecDepth 100000 in
theorem t_A_share_4 (C : gC E bA p s m args meth c b_A_share R_A 3) (hr : meth.sig.returnType = (some .int)) {zx : Int32} {zV : gV} : ∀ (n : Nat) (v0 : Nat) (v1 : Int32) (v2 : Int32) (V : gV), D_A_share_4 L  n v0 v1 v2 V = some (.inl zx, zV) → vW E base bA 3 p l e rm_A_share s m args below meth c 0 0 (g_MQ E base bA below args s 1 6 L zV (some (tI zx))) L V 4 [(0, tR (some v0)), (1, tI v1), (2, tI v2)] [] := by
  intro n
  induction n with
  | zero =>
    intro v0 v1 v2 V h
    rw [D_A_share_4] at h
    cases h
  | succ n ih =>
    intro v0 v1 v2 V h
    rw [D_A_share_4] at h
    refine r_iload_n (x := v2) C d_A_share_4 rfl rfl ?_
    refine r_iconst C (4 : Int32) d_A_share_5 (by decide) ?_
    refine r_icmp_ge C 24 d_A_share_6 (by decide) (fun c7 => ?_) (fun c7 => ?_)
    · rw [if_pos c7] at h
      refine r_iload_n (x := v1) C d_A_share_24 rfl rfl ?_
      refine r_if_ne C 38 d_A_share_25 (by decide) (fun c3 => ?_) (fun c3 => ?_)
      · rw [if_neg c3] at h
        refine r_sipush C (1000 : Int32) d_A_share_38 (by decide) ?_
        refine r_aload_n (x := (some v0)) C d_A_share_41 rfl rfl ?_
        replace h := g_ob h; obtain ⟨x1, e_x1, h⟩ := h
        refine r_getI C f_A_35 d_A_share_42 e_x1 ?_
        refine r_imul C d_A_share_45 ?_
        refine r_iload_n (x := v1) C d_A_share_46 rfl rfl ?_
        by_cases c2 : v1 = 0
        · rw [if_pos c2] at h; cases h
        rw [if_neg c2] at h
        refine r_idiv C d_A_share_47 c2 ?_
        cases h
        refine r_wid (k := 1) (n := 6) (Nat.le_of_ble_eq_true rfl) (Nat.le_of_ble_eq_true rfl) ?_
        exact r_iret C hr d_A_share_48
      · rw [if_pos c3] at h
        cases h
    · rw [if_neg c7] at h
      refine r_iload_n (x := v1) C d_A_share_9 rfl rfl ?_
      refine r_aload_n (x := (some v0)) C d_A_share_10 rfl rfl ?_
      replace h := g_ob h; obtain ⟨x4, e_x4, h⟩ := h
      refine r_getR C f_A_32 d_A_share_11 e_x4 ?_
      refine r_iload_n (x := v2) C d_A_share_14 rfl rfl ?_
      replace h := g_ob h; obtain ⟨a5, rfl, h⟩ := h
      replace h := g_ob h; obtain ⟨x6, e_x6, h⟩ := h
      refine r_iald C ak_100 d_A_share_15 e_x6 ?_
      refine r_iadd C d_A_share_16 ?_
      refine r_istore_n (lv' := [(1, tI (v1 + x6)), (0, tR (some v0)), (2, tI v2)]) C d_A_share_17 rfl (by decide) rfl ?_
      refine r_iinc (x := v2) (v := v2 + (1 : Int32)) (lv' := [(2, tI (v2 + (1 : Int32))), (1, tI (v1 + x6)), (0, tR (some v0))]) C d_A_share_18 rfl rfl (by decide) rfl ?_
      refine r_goto C 4 d_A_share_21 (by decide) ?_
      refine r_lv [2, 1, 0] rfl ?_
      exact ih v0 (v1 + x6) (v2 + (1 : Int32)) V h
set_option maxHeartbeats 4000000 in
set_option maxRecDepth 100000 in
theorem t_A_share_0 (C : gC E bA p s m args meth c b_A_share R_A 3) (hr : meth.sig.returnType = (some .int)) {zx : Int32} {zV : gV} (h0 : Nat) (V : gV) (h : D_A_share h0 L V = some (.inl zx, zV)) : vW E base bA 3 p l e rm_A_share s m args below meth c 0 0 (g_MQ E base bA below args s 1 6 L zV (some (tI zx))) L V 0 [(0, tR (some h0))] [] := by
  unfold D_A_share at h
  refine r_iconst C (0 : Int32) d_A_share_0 (by decide) ?_
  refine r_istore_n (lv' := [(1, tI (0 : Int32)), (0, tR (some h0))]) C d_A_share_1 rfl (by decide) rfl ?_
  refine r_iconst C (0 : Int32) d_A_share_2 (by decide) ?_
  refine r_istore_n (lv' := [(2, tI (0 : Int32)), (1, tI (0 : Int32)), (0, tR (some h0))]) C d_A_share_3 rfl (by decide) rfl ?_
  refine r_lv [2, 1, 0] rfl ?_
  exact t_A_share_4 C hr  1000 h0 (0 : Int32) (0 : Int32) V h
set_option maxHeartbeats 4000000 in
set_option maxRecDepth 100000 in
theorem tT_A_share_4 (C : gC E bA p s m args meth c b_A_share R_A 3) (hr : meth.sig.returnType = (some .int)) {zk : Nat} {zV : gV} {sa : Nat → Nat} (hfl : l.flags = flags0) (hT : g_T sa base s) (hnh : c.exceptionTable.isEmpty = true) (hbs : bA = s.heap.size) (hLs : L.1 = s.heap.size) : ∀ (n : Nat) (v0 : Nat) (v1 : Int32) (v2 : Int32) (V : gV), D_A_share_4 L  n v0 v1 v2 V = some (.inr zk, zV) → vW E base bA 3 p l e rm_A_share s m args below meth c 0 0 (xQ below args s (g_X zk) 1 6) L V 4 [(0, tR (some v0)), (1, tI v1), (2, tI v2)] [] := by
  intro n
  induction n with
  | zero =>
    intro v0 v1 v2 V h
    rw [D_A_share_4] at h
    cases h
  | succ n ih =>
    intro v0 v1 v2 V h
    rw [D_A_share_4] at h
    refine r_iload_n (x := v2) C d_A_share_4 rfl rfl ?_
    refine r_iconst C (4 : Int32) d_A_share_5 (by decide) ?_
    refine r_icmp_ge C 24 d_A_share_6 (by decide) (fun c7 => ?_) (fun c7 => ?_)
    · rw [if_pos c7] at h
      refine r_iload_n (x := v1) C d_A_share_24 rfl rfl ?_
      refine r_if_ne C 38 d_A_share_25 (by decide) (fun c3 => ?_) (fun c3 => ?_)
      · rw [if_neg c3] at h
        refine r_sipush C (1000 : Int32) d_A_share_38 (by decide) ?_
        refine r_aload_n (x := (some v0)) C d_A_share_41 rfl rfl ?_
        replace h := g_ob h; obtain ⟨x1, e_x1, h⟩ := h
        refine r_getI C f_A_35 d_A_share_42 e_x1 ?_
        refine r_imul C d_A_share_45 ?_
        refine r_iload_n (x := v1) C d_A_share_46 rfl rfl ?_
        by_cases c2 : v1 = 0
        · rw [if_pos c2] at h; cases h
        rw [if_neg c2] at h
        refine r_idiv C d_A_share_47 c2 ?_
        cases h
      · rw [if_pos c3] at h
        cases h
        exact r_throw hfl C hT hnh hbs 2 (by decide) (by decide +kernel) w_231 w_232 w_233 g_own2 d_A_share_28 d_A_share_31 d_A_share_32 d_A_share_34 d_A_share_37 (Nat.le_of_ble_eq_true rfl) (Nat.le_of_ble_eq_true rfl) (Nat.le_of_ble_eq_true rfl) (Nat.le_of_ble_eq_true rfl) hLs
    · rw [if_neg c7] at h
      refine r_iload_n (x := v1) C d_A_share_9 rfl rfl ?_
      refine r_aload_n (x := (some v0)) C d_A_share_10 rfl rfl ?_
      replace h := g_ob h; obtain ⟨x4, e_x4, h⟩ := h
      refine r_getR C f_A_32 d_A_share_11 e_x4 ?_
      refine r_iload_n (x := v2) C d_A_share_14 rfl rfl ?_
      replace h := g_ob h; obtain ⟨a5, rfl, h⟩ := h
      replace h := g_ob h; obtain ⟨x6, e_x6, h⟩ := h
      refine r_iald C ak_100 d_A_share_15 e_x6 ?_
      refine r_iadd C d_A_share_16 ?_
      refine r_istore_n (lv' := [(1, tI (v1 + x6)), (0, tR (some v0)), (2, tI v2)]) C d_A_share_17 rfl (by decide) rfl ?_
      refine r_iinc (x := v2) (v := v2 + (1 : Int32)) (lv' := [(2, tI (v2 + (1 : Int32))), (1, tI (v1 + x6)), (0, tR (some v0))]) C d_A_share_18 rfl rfl (by decide) rfl ?_
      refine r_goto C 4 d_A_share_21 (by decide) ?_
      refine r_lv [2, 1, 0] rfl ?_
      exact ih v0 (v1 + x6) (v2 + (1 : Int32)) V h
set_option maxHeartbeats 4000000 in
set_option maxRecDepth 100000 in
theorem tT_A_share_0 (C : gC E bA p s m args meth c b_A_share R_A 3) (hr : meth.sig.returnType = (some .int)) {zk : Nat} {zV : gV} {sa : Nat → Nat} (hfl : l.flags = flags0) (hT : g_T sa base s) (hnh : c.exceptionTable.isEmpty = true) (hbs : bA = s.heap.size) (hLs : L.1 = s.heap.size) (h0 : Nat) (V : gV) (h : D_A_share h0 L V = some (.inr zk, zV)) : vW E base bA 3 p l e rm_A_share s m args below meth c 0 0 (xQ below args s (g_X zk) 1 6) L V 0 [(0, tR (some h0))] [] := by
  unfold D_A_share at h
  refine r_iconst C (0 : Int32) d_A_share_0 (by decide) ?_
  refine r_istore_n (lv' := [(1, tI (0 : Int32)), (0, tR (some h0))]) C d_A_share_1 rfl (by decide) rfl ?_
  refine r_iconst C (0 : Int32) d_A_share_2 (by decide) ?_
  refine r_istore_n (lv' := [(2, tI (0 : Int32)), (1, tI (0 : Int32)), (0, tR (some h0))]) C d_A_share_3 rfl (by decide) rfl ?_
  refine r_lv [2, 1, 0] rfl ?_
  exact tT_A_share_4 C hr hfl hT hnh hbs hLs  1000 h0 (0 : Int32) (0 : Int32) V h
theorem c_A_share (l : Launch) (E : gE) (base bA : Nat) (h0 : Nat) (L : gL) (V : gV) {zx : Int32} {zV : gV} (h : D_A_share h0 L V = some (.inl zx, zV)) : g_Met l E base bA y_A_share b_A_share 3 (some .int) rm_A_share [tR (some h0)] L V (some (tI zx)) L zV :=
  r_enter R_A (by decide) rfl [tR (some h0)] [(0, tR (some h0))] rfl (Nat.le_of_ble_eq_true rfl) (fun p e s m args below meth c C hr hnm => t_A_share_0 C hr h0 V h)
theorem cT_A_share (l : Launch) (hfl : l.flags = flags0) (E : gE) (base : Nat) (sa : Nat → Nat) (h0 : Nat) (L : gL) (V : gV) {zk : Nat} {zV : gV} (h : D_A_share h0 L V = some (.inr zk, zV)) : g_MetT l E base sa y_A_share b_A_share 3 (some .int) rm_A_share [tR (some h0)] L V (g_X zk) :=
  r_enterT R_A (by decide) rfl [tR (some h0)] [(0, tR (some h0))] rfl (Nat.le_of_ble_eq_true rfl) (fun p e s m args below meth c C hr hT hnh hLs => tT_A_share_0 C hr hfl hT hnh hLs hLs h0 V h)
end GC4
