section GWALK
variable {E : gE} {base : Nat} {p : Program} {l : Launch} {e : Env} {s : State} {m : MethodId} {args : Array Value} {below : List Frame} {meth : Method} {c : Code} {Q : State → Prop} {sa : Nat → Nat} {b Ln : Nat} {xs : Nat → Int32}
theorem d_W_law_39 : decode b_W_law 39 = .ok (.tableswitch 820 0 16 #[81, 138, 235, 260, 361, 398, 447, 472, 497, 522, 547, 572, 639, 664, 714, 751, 776], 81) := by decide +kernel
theorem r_tswI {bA nL : Nat} {R : Room} {cells slots : Nat} {cc : ByteArray} {own : String} {L : gL} {V : gV} {pc : Nat} {lv : List (Nat × gT)} {st : List gT} (C : gC E bA p s m args meth c cc own nL) {dflt lo hi : Int} {offs : Array Int} {len : Nat} {x : Int32} {off : Int} (tgt : Nat) (hd : decode cc pc = .ok (.tableswitch dflt lo hi offs, len)) (h1 : ¬ x.toInt < lo) (h2 : ¬ hi < x.toInt) (ho : offs[(x.toInt - lo).toNat]? = some off) (ht : (pc : Int) + off = (tgt : Int)) (k : vW E base bA nL p l e R s m args below meth c cells slots Q L V tgt lv st) : vW E base bA nL p l e R s m args below meth c cells slots Q L V pc lv (tI x :: st) :=
  fun H locs ls g1 g2 g3 => lv_tableIn C.1 C.2.1 hd h1 h2 ho ht (k H locs ls g1 g2 g3)
theorem r_tswO {bA nL : Nat} {R : Room} {cells slots : Nat} {cc : ByteArray} {own : String} {L : gL} {V : gV} {pc : Nat} {lv : List (Nat × gT)} {st : List gT} (C : gC E bA p s m args meth c cc own nL) {dflt lo hi : Int} {offs : Array Int} {len : Nat} {x : Int32} (tgt : Nat) (hd : decode cc pc = .ok (.tableswitch dflt lo hi offs, len)) (h : x.toInt < lo ∨ hi < x.toInt) (ht : (pc : Int) + dflt = (tgt : Int)) (k : vW E base bA nL p l e R s m args below meth c cells slots Q L V tgt lv st) : vW E base bA nL p l e R s m args below meth c cells slots Q L V pc lv (tI x :: st) :=
  fun H locs ls g1 g2 g3 => lv_tableOut C.1 C.2.1 hd h ht (k H locs ls g1 g2 g3)
theorem x_tsw {x : Int32} (h : ∀ k : Nat, k < 17 → ¬ x = nI k) : x.toInt < 0 ∨ 16 < x.toInt := by
  by_cases g : x.toInt < 0 ∨ 16 < x.toInt
  · exact g
  · exfalso
    have h1 : ¬ x.toInt < 0 := fun q => g (Or.inl q)
    have h2 : ¬ 16 < x.toInt := fun q => g (Or.inr q)
    have hk : x.toInt.toNat < 17 := by omega
    refine h x.toInt.toNat hk (Int32.toInt_inj.mp ?_)
    rw [nI_toInt (by omega)]
    omega
set_option maxHeartbeats 4000000 in
set_option maxRecDepth 100000 in
theorem t_law (C : gC E base p s m args meth c b_W_law R_W 8) (hX : va_X b Ln xs s s.heap) (hbb : b < base ∧ base = s.heap.size) (hfl : l.flags = flags0) (hT : g_T sa base s) {v1 v2 v3 : Nat} (hend : ∀ (L : gL) (V : gV) (cells slots : Nat) (lv : List (Nat × gT)), cells ≤ 601024 → slots ≤ 7293034 → vW E base base 8 p l e room_1 s m args below meth c cells slots Q L V 866 lv [tI 1]) : ∀ (n : Nat) (v4 : Int32) (cells slots : Nat) (L : gL) (V : gV), cells + 16 * n ≤ 601024 → slots + 100 * n ≤ 7293034 → D_law Ln xs v1 v2 v3 n v4 L V = some () → vW E base base 8 p l e room_1 s m args below meth c cells slots Q L V 23 [(0, tR (some b)), (1, tR (some v1)), (2, tR (some v2)), (3, tR (some v3)), (4, tI v4)] [] := by
  intro n
  induction n with
  | zero =>
    intro v4 cells slots L V h1 h2 h
    cases h
  | succ n ih =>
    intro v4 cells slots L V h1 h2 h
    rw [D_law] at h
    refine r_iload (x := v4) C d_W_law_23 rfl ?_
    refine r_aload_n (x := (some b)) C d_W_law_25 rfl rfl ?_
    refine r_slen C hX hbb d_W_law_26 ?_
    refine r_iconst C (5 : Int32) d_W_law_27 (by decide) ?_
    refine r_isub C d_W_law_28 ?_
    refine r_icmp_gt C 865 d_W_law_29 (by decide) (fun cg => ?_) (fun cg => ?_)
    · refine r_iconst C (1 : Int32) d_W_law_865 (by decide) ?_
      exact hend L V cells slots _ (by omega) (by omega)
    · rw [if_neg cg] at h
      refine r_aload_n (x := (some b)) C d_W_law_32 rfl rfl ?_
      refine r_iload (x := v4) C d_W_law_33 rfl ?_
      replace h := g_ob h; obtain ⟨q, e_q, h⟩ := h
      refine r_sld C hX hbb d_W_law_35 e_q ?_
      refine r_bipush C (31 : Int32) d_W_law_36 (by decide) ?_
      refine r_iand C d_W_law_38 ?_
      have back : ∀ (cells slots : Nat) (L : gL) (V : gV), cells + 16 * n ≤ 601024 → slots + 100 * n ≤ 7293034 → D_law Ln xs v1 v2 v3 n (v4 + 5) L V = some () → vW E base base 8 p l e room_1 s m args below meth c cells slots Q L V 859 [(0, tR (some b)), (1, tR (some v1)), (2, tR (some v2)), (3, tR (some v3)), (4, tI v4)] [] := by
        intro cells slots L V g1 g2 g
        refine r_iinc (x := v4) (v := v4 + 5) (lv' := [(4, tI (v4 + 5)), (0, tR (some b)), (1, tR (some v1)), (2, tR (some v2)), (3, tR (some v3))]) C d_W_law_859 rfl rfl (by decide) rfl ?_
        refine r_goto C 23 d_W_law_862 (by decide) ?_
        refine r_lv [1, 2, 3, 4, 0] rfl ?_
        exact ih (v4 + 5) cells slots L V g1 g2 g
      have hK : ∀ (L : gL) (V : gV), D_law Ln xs v1 v2 v3 n (v4 + 5) L V = some () → vW E base base 8 p l e room_1 s m args below meth c (cells + 16) (slots + 100) Q L V 859 [(0, tR (some b)), (1, tR (some v1)), (2, tR (some v2)), (3, tR (some v3)), (4, tI v4)] [] :=
        fun L V g => back (cells + 16) (slots + 100) L V (by omega) (by omega) g
      have hcl : cells + 16 ≤ 601024 := by omega
      have hsl : slots + 100 ≤ 7293034 := by omega
      by_cases c0 : q &&& 31 = 0
      · rw [if_pos c0] at h
        rw [c0]
        refine r_tswI C 120 d_W_law_39 (by decide) (by decide) (off := 81) (by decide) (by decide) ?_
        exact t_L0 C hX hbb hfl hT hcl hsl (K := fun L V => D_law Ln xs v1 v2 v3 n (v4 + 5) L V) hK L V h
      rw [if_neg c0] at h
      by_cases c1 : q &&& 31 = 1
      · rw [if_pos c1] at h
        rw [c1]
        refine r_tswI C 177 d_W_law_39 (by decide) (by decide) (off := 138) (by decide) (by decide) ?_
        exact t_L1 C hX hbb hfl hT hcl hsl (K := fun L V => D_law Ln xs v1 v2 v3 n (v4 + 5) L V) hK L V h
      rw [if_neg c1] at h
      by_cases c2 : q &&& 31 = 2
      · rw [if_pos c2] at h
        rw [c2]
        refine r_tswI C 274 d_W_law_39 (by decide) (by decide) (off := 235) (by decide) (by decide) ?_
        exact t_L2 C hX hbb hfl hT hcl hsl (K := fun L V => D_law Ln xs v1 v2 v3 n (v4 + 5) L V) hK L V h
      rw [if_neg c2] at h
      by_cases c3 : q &&& 31 = 3
      · rw [if_pos c3] at h
        rw [c3]
        refine r_tswI C 299 d_W_law_39 (by decide) (by decide) (off := 260) (by decide) (by decide) ?_
        exact t_L3 C hX hbb hfl hT hcl hsl (K := fun L V => D_law Ln xs v1 v2 v3 n (v4 + 5) L V) hK L V h
      rw [if_neg c3] at h
      by_cases c4 : q &&& 31 = 4
      · rw [if_pos c4] at h
        rw [c4]
        refine r_tswI C 400 d_W_law_39 (by decide) (by decide) (off := 361) (by decide) (by decide) ?_
        exact t_L4 C hX hbb hfl hT hcl hsl (K := fun L V => D_law Ln xs v1 v2 v3 n (v4 + 5) L V) hK L V h
      rw [if_neg c4] at h
      by_cases c5 : q &&& 31 = 5
      · rw [if_pos c5] at h
        rw [c5]
        refine r_tswI C 437 d_W_law_39 (by decide) (by decide) (off := 398) (by decide) (by decide) ?_
        exact t_L5 C hX hbb hfl hT hcl hsl (K := fun L V => D_law Ln xs v1 v2 v3 n (v4 + 5) L V) hK L V h
      rw [if_neg c5] at h
      by_cases c6 : q &&& 31 = 6
      · rw [if_pos c6] at h
        rw [c6]
        refine r_tswI C 486 d_W_law_39 (by decide) (by decide) (off := 447) (by decide) (by decide) ?_
        exact t_L6 C hX hbb hfl hT hcl hsl (K := fun L V => D_law Ln xs v1 v2 v3 n (v4 + 5) L V) hK L V h
      rw [if_neg c6] at h
      by_cases c7 : q &&& 31 = 7
      · rw [if_pos c7] at h
        rw [c7]
        refine r_tswI C 511 d_W_law_39 (by decide) (by decide) (off := 472) (by decide) (by decide) ?_
        exact t_L7 C hX hbb hfl hT hcl hsl (K := fun L V => D_law Ln xs v1 v2 v3 n (v4 + 5) L V) hK L V h
      rw [if_neg c7] at h
      by_cases c8 : q &&& 31 = 8
      · rw [if_pos c8] at h
        rw [c8]
        refine r_tswI C 536 d_W_law_39 (by decide) (by decide) (off := 497) (by decide) (by decide) ?_
        exact t_L8 C hX hbb hfl hT hcl hsl (K := fun L V => D_law Ln xs v1 v2 v3 n (v4 + 5) L V) hK L V h
      rw [if_neg c8] at h
      by_cases c9 : q &&& 31 = 9
      · rw [if_pos c9] at h
        rw [c9]
        refine r_tswI C 561 d_W_law_39 (by decide) (by decide) (off := 522) (by decide) (by decide) ?_
        exact t_L9 C hX hbb hfl hT hcl hsl (K := fun L V => D_law Ln xs v1 v2 v3 n (v4 + 5) L V) hK L V h
      rw [if_neg c9] at h
      by_cases c10 : q &&& 31 = 10
      · rw [if_pos c10] at h
        rw [c10]
        refine r_tswI C 586 d_W_law_39 (by decide) (by decide) (off := 547) (by decide) (by decide) ?_
        exact t_L10 C hX hbb hfl hT hcl hsl (K := fun L V => D_law Ln xs v1 v2 v3 n (v4 + 5) L V) hK L V h
      rw [if_neg c10] at h
      by_cases c11 : q &&& 31 = 11
      · rw [if_pos c11] at h
        rw [c11]
        refine r_tswI C 611 d_W_law_39 (by decide) (by decide) (off := 572) (by decide) (by decide) ?_
        exact t_L11 C hX hbb hfl hT hcl hsl (K := fun L V => D_law Ln xs v1 v2 v3 n (v4 + 5) L V) hK L V h
      rw [if_neg c11] at h
      by_cases c12 : q &&& 31 = 12
      · rw [if_pos c12] at h
        rw [c12]
        refine r_tswI C 678 d_W_law_39 (by decide) (by decide) (off := 639) (by decide) (by decide) ?_
        exact t_L12 C hX hbb hfl hT hcl hsl (K := fun L V => D_law Ln xs v1 v2 v3 n (v4 + 5) L V) hK L V h
      rw [if_neg c12] at h
      by_cases c13 : q &&& 31 = 13
      · rw [if_pos c13] at h
        rw [c13]
        refine r_tswI C 703 d_W_law_39 (by decide) (by decide) (off := 664) (by decide) (by decide) ?_
        exact t_L13 C hX hbb hfl hT hcl hsl (K := fun L V => D_law Ln xs v1 v2 v3 n (v4 + 5) L V) hK L V h
      rw [if_neg c13] at h
      by_cases c14 : q &&& 31 = 14
      · rw [if_pos c14] at h
        rw [c14]
        refine r_tswI C 753 d_W_law_39 (by decide) (by decide) (off := 714) (by decide) (by decide) ?_
        exact t_L14 C hX hbb hfl hT hcl hsl (K := fun L V => D_law Ln xs v1 v2 v3 n (v4 + 5) L V) hK L V h
      rw [if_neg c14] at h
      by_cases c15 : q &&& 31 = 15
      · rw [if_pos c15] at h
        rw [c15]
        refine r_tswI C 790 d_W_law_39 (by decide) (by decide) (off := 751) (by decide) (by decide) ?_
        exact t_L15 C hX hbb hfl hT hcl hsl (K := fun L V => D_law Ln xs v1 v2 v3 n (v4 + 5) L V) hK L V h
      rw [if_neg c15] at h
      by_cases c16 : q &&& 31 = 16
      · rw [if_pos c16] at h
        rw [c16]
        refine r_tswI C 815 d_W_law_39 (by decide) (by decide) (off := 776) (by decide) (by decide) ?_
        exact t_L16 C hX hbb hfl hT hcl hsl (K := fun L V => D_law Ln xs v1 v2 v3 n (v4 + 5) L V) hK L V h
      rw [if_neg c16] at h
      refine r_tswO C 859 d_W_law_39 (x_tsw fun k hk => ?_) (by decide) ?_
      · have hk' : k = 0 ∨ k = 1 ∨ k = 2 ∨ k = 3 ∨ k = 4 ∨ k = 5 ∨ k = 6 ∨ k = 7 ∨ k = 8 ∨ k = 9 ∨ k = 10 ∨ k = 11 ∨ k = 12 ∨ k = 13 ∨ k = 14 ∨ k = 15 ∨ k = 16 := by omega
        rcases hk' with rfl | rfl | rfl | rfl | rfl | rfl | rfl | rfl | rfl | rfl | rfl | rfl | rfl | rfl | rfl | rfl | rfl
        · exact c0
        · exact c1
        · exact c2
        · exact c3
        · exact c4
        · exact c5
        · exact c6
        · exact c7
        · exact c8
        · exact c9
        · exact c10
        · exact c11
        · exact c12
        · exact c13
        · exact c14
        · exact c15
        · exact c16
      · exact r_wid (k := cells + 16) (n := slots + 100) (by omega) (by omega) (hK L V h)
theorem w_W_1 : Cond.classLink R_W 8 R_A ∈ g_tb := g_m1 13 rfl rfl
theorem w_W_2 : Cond.instantiable R_A 7 ∈ g_tb := g_m1 14 rfl rfl
theorem w_W_3 : Cond.methodLink R_W 23 y_A_init ∈ g_tb := g_m1 15 rfl rfl
theorem w_W_4 : Cond.instanceMethod y_A_init ∈ g_tb := g_m1 16 rfl rfl
theorem w_W_5 : Cond.code y_A_init b_A_init 1 none ∈ g_tb := g_m1 17 rfl rfl
theorem w_W_6 : Cond.classLink R_W 24 R_M ∈ g_tb := g_m2 235 rfl rfl
theorem w_W_7 : Cond.instantiable R_M 25 ∈ g_tb := g_m2 236 rfl rfl
theorem w_W_8 : Cond.methodLink R_W 26 y_M_init ∈ g_tb := g_m2 237 rfl rfl
theorem w_W_9 : Cond.instanceMethod y_M_init ∈ g_tb := g_m2 238 rfl rfl
theorem w_W_10 : Cond.code y_M_init b_M_init 1 none ∈ g_tb := g_m2 239 rfl rfl
theorem n_W_8 : gNw R_W 8 3 7 df_A := ⟨R_A, F_A, ty_A, rfl, i_A, ty_A_ok, w_W_1, w_W_2, w_92, df_A_ok⟩
theorem n_W_24 : gNw R_W 24 4 25 df_M := ⟨R_M, F_M, ty_M, rfl, i_M, ty_M_ok, w_W_6, w_W_7, w_260, df_M_ok⟩
theorem k_W_23 : gM R_W 23 y_A_init 0 := ⟨w_W_3, w_92, by decide +kernel⟩
theorem k_W_26 : gM R_W 26 y_M_init 0 := ⟨w_W_8, w_260, by decide +kernel⟩
set_option maxHeartbeats 4000000 in
set_option maxRecDepth 100000 in
theorem t_start (C : gC E base p s m args meth c b_W_law R_W 8) (hX : va_X b Ln xs s s.heap) (hbb : b < base ∧ base = s.heap.size) (hfl : l.flags = flags0) (hT : g_T sa base s) (hend : ∀ (L : gL) (V : gV) (cells slots : Nat) (lv : List (Nat × gT)), cells ≤ 601024 → slots ≤ 7293034 → vW E base base 8 p l e room_1 s m args below meth c cells slots Q L V 866 lv [tI 1]) (n : Nat) (hn : n ≤ 1000) (L : gL) (V : gV) (h : D_start n Ln xs L V = some ()) : vW E base base 8 p l e room_1 s m args below meth c 0 0 Q L V 0 [(0, tR (some b))] [] := by
  unfold D_start at h
  replace h := g_obn h; obtain ⟨L1, V2, e_L1, h⟩ := h
  refine r_new C n_W_8 d_W_law_0 e_L1 (Nat.le_of_ble_eq_true rfl) (Nat.le_of_ble_eq_true rfl) ?_
  refine r_dup C d_W_law_3 rfl ?_
  replace h := g_o3 h; obtain ⟨r3, L5, V4, e_r3, h⟩ := h
  refine r_callI (As := []) C k_W_23 rfl w_W_4 w_W_5 (c_A_init l E base L.1 L1 V2 e_r3) d_W_law_4 rfl ⟨Nat.le_of_ble_eq_true rfl, Nat.le_of_ble_eq_true rfl⟩ (Nat.le_of_ble_eq_true rfl) (Nat.le_of_ble_eq_true rfl) (Nat.le_of_ble_eq_true rfl) rfl ?_
  refine r_astore_n (lv' := [(1, tR (some L.1)), (0, tR (some b))]) C d_W_law_7 rfl (by decide) rfl ?_
  replace h := g_obn h; obtain ⟨L6, V7, e_L6, h⟩ := h
  refine r_new C n_W_24 d_W_law_8 e_L6 (Nat.le_of_ble_eq_true rfl) (Nat.le_of_ble_eq_true rfl) ?_
  refine r_dup C d_W_law_11 rfl ?_
  replace h := g_o3 h; obtain ⟨r8, L10, V9, e_r8, h⟩ := h
  refine r_callI (As := []) C k_W_26 rfl w_W_9 w_W_10 (c_M_init l E base L5.1 L6 V7 e_r8) d_W_law_12 rfl ⟨Nat.le_of_ble_eq_true rfl, Nat.le_of_ble_eq_true rfl⟩ (Nat.le_of_ble_eq_true rfl) (Nat.le_of_ble_eq_true rfl) (Nat.le_of_ble_eq_true rfl) rfl ?_
  refine r_astore_n (lv' := [(2, tR (some L5.1)), (1, tR (some L.1)), (0, tR (some b))]) C d_W_law_15 rfl (by decide) rfl ?_
  refine r_iconst C (1 : Int32) d_W_law_16 (by decide) ?_
  replace h := g_obn h; obtain ⟨L11, V12, e_L11, h⟩ := h
  refine r_newa (at_ := .long) (ty := .long) C rfl ak_101 (fun _ q => by cases q) w_5 d_W_law_17 (by decide) (by decide) (by decide) rfl e_L11 (Nat.le_of_ble_eq_true rfl) (Nat.le_of_ble_eq_true rfl) ?_
  refine r_astore_n (lv' := [(3, tR (some L10.1)), (2, tR (some L5.1)), (1, tR (some L.1)), (0, tR (some b))]) C d_W_law_19 rfl (by decide) rfl ?_
  refine r_iconst C (0 : Int32) d_W_law_20 (by decide) ?_
  refine r_istore (lv' := [(4, tI 0), (3, tR (some L10.1)), (2, tR (some L5.1)), (1, tR (some L.1)), (0, tR (some b))]) C d_W_law_21 (by decide) rfl ?_
  refine r_lv [4, 3, 2, 1, 0] rfl ?_
  refine r_wid (k := 100) (n := 2000) (Nat.le_of_ble_eq_true rfl) (Nat.le_of_ble_eq_true rfl) ?_
  exact t_law C hX hbb hfl hT hend n 0 100 2000 L11 V12 (by omega) (by omega) h
end GWALK
