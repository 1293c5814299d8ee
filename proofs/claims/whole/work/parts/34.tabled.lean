/-! OUTPUT AND SHARE OF THE LAW: the throws are caught -/
def rm_W_output : Room := { frames := 7, cells := 1, slots := 6, locals := 106 }
def D_W_output (p0 : Nat) (p1 p2 : Int32) (p3 : Nat) (L : gL) (V : gV) : Option (Int32 × gL × gV) :=
  Option.bind (L.2 3 p0) fun _ =>
  match D_A_output p0 p1 p2 L V with
  | none => none
  | some (.inl v, V1) => Option.bind (g_wa L V1 101 p3 0 (tJ v)) fun V2 => some (0, L, V2)
  | some (.inr k, _) => if k = 0 then some (1, g_oL L, V) else if k = 1 then some (2, g_oL L, V) else none
set_option maxHeartbeats 4000000 in
set_option maxRecDepth 100000 in
theorem c_W_output (l : Launch) (hfl : l.flags = flags0) (E : gE) (base : Nat) (sa : Nat → Nat) (p0 : Nat) (p1 p2 : Int32) (p3 : Nat) (L : gL) (V : gV) {z : Int32 × gL × gV} (h : D_W_output p0 p1 p2 p3 L V = some z) : g_MetW l E base sa y_W_output b_W_output 5 (some .int) [(0, 9, 12, 13), (0, 9, 16, 15)] rm_W_output [tR (some p0), tI p1, tI p2, tR (some p3)] L V (some (tI z.1)) z.2.1 z.2.2 := by
  refine r_enterW R_W (by decide) rfl [tR (some p0), tI p1, tI p2, tR (some p3)] [(0, tR (some p0)), (1, tI p1), (2, tI p2), (3, tR (some p3))] rfl (Nat.le_of_ble_eq_true rfl) ?_
  intro p e s m args below meth c C hr hT hH
  unfold D_W_output at h
  replace h := g_ob h; obtain ⟨nx, e_nx, h⟩ := h
  refine r_aload_n (x := some p3) C d_W_output_0 rfl rfl ?_
  refine r_iconst C (0 : Int32) d_W_output_1 (by decide) ?_
  refine r_aload_n (x := some p0) C d_W_output_2 rfl rfl ?_
  refine r_iload_n (x := p1) C d_W_output_3 rfl rfl ?_
  refine r_iload_n (x := p2) C d_W_output_4 rfl rfl ?_
  cases hA : D_A_output p0 p1 p2 L V with
  | none => rw [hA] at h; cases h
  | some w =>
    obtain ⟨w1, V1⟩ := w
    rw [hA] at h
    cases w1 with
    | inl v =>
      replace h := g_ob h; obtain ⟨V2, e_V2, h⟩ := h
      refine r_callV (As := [tI p1, tI p2]) C k_W_7 w_347 w_348 w_349 ⟨_, _, rfl⟩ (c_A_output l E base base p0 p1 p2 L V hA) d_W_output_5 e_nx rfl ⟨Nat.le_of_ble_eq_true rfl, Nat.le_of_ble_eq_true rfl⟩ (Nat.le_of_ble_eq_true rfl) (Nat.le_of_ble_eq_true rfl) (Nat.le_of_ble_eq_true rfl) rfl ?_
      refine r_last C ak_101 d_W_output_8 e_V2 ?_
      refine r_goto C 20 d_W_output_9 (by decide) ?_
      refine r_iconst C (0 : Int32) d_W_output_20 (by decide) ?_
      cases h
      exact r_iret C hr d_W_output_21
    | inr k =>
      replace h : (if k = 0 then some ((1 : Int32), g_oL L, V) else if k = 1 then some (2, g_oL L, V) else none) = some z := h
      by_cases k0 : k = 0
      · subst k0
        cases h
        refine r_catch (As := [tI p1, tI p2]) C hT k_W_7 w_347 w_348 w_349 ⟨_, _, rfl⟩ (k := 0) (cT_A_output l hfl E base sa p0 p1 p2 L V hA) rfl rfl d_W_output_5 e_nx rfl ⟨Nat.le_of_ble_eq_true rfl, Nat.le_of_ble_eq_true rfl⟩ (Nat.le_of_ble_eq_true rfl) (Nat.le_of_ble_eq_true rfl) (Nat.le_of_ble_eq_true rfl) rfl (x_find1 C.2.2.2.1 hT (by decide) hH (by decide) (by decide) (by decide) (C.2.2.2.2.1 _ w_350)) ?_
        refine r_astore (lv' := [(4, tR (some L.1)), (0, tR (some p0)), (1, tI p1), (2, tI p2), (3, tR (some p3))]) C d_W_output_12 (by decide) rfl ?_
        refine r_iconst C (1 : Int32) d_W_output_14 (by decide) ?_
        exact r_iret C hr d_W_output_15
      · rw [if_neg k0] at h
        by_cases k1 : k = 1
        · subst k1
          cases h
          refine r_catch (As := [tI p1, tI p2]) C hT k_W_7 w_347 w_348 w_349 ⟨_, _, rfl⟩ (k := 1) (cT_A_output l hfl E base sa p0 p1 p2 L V hA) rfl rfl d_W_output_5 e_nx rfl ⟨Nat.le_of_ble_eq_true rfl, Nat.le_of_ble_eq_true rfl⟩ (Nat.le_of_ble_eq_true rfl) (Nat.le_of_ble_eq_true rfl) (Nat.le_of_ble_eq_true rfl) rfl (x_find2 C.2.2.2.1 hT hH (by decide) (by decide) (by decide) (by decide) (by decide) (by decide) (C.2.2.2.2.1 _ w_350) (C.2.2.2.2.1 _ w_351)) ?_
          refine r_astore (lv' := [(4, tR (some L.1)), (0, tR (some p0)), (1, tI p1), (2, tI p2), (3, tR (some p3))]) C d_W_output_16 (by decide) rfl ?_
          refine r_iconst C (2 : Int32) d_W_output_18 (by decide) ?_
          exact r_iret C hr d_W_output_19
        · rw [if_neg k1] at h; cases h
def rm_W_share : Room := { frames := 7, cells := 1, slots := 6, locals := 104 }
def D_W_share (p0 p1 : Nat) (L : gL) (V : gV) : Option (Int32 × gL × gV) :=
  Option.bind (L.2 3 p0) fun _ =>
  match D_A_share p0 L V with
  | none => none
  | some (.inl v, V1) => Option.bind (g_wa L V1 101 p1 0 (tJ v.toInt64)) fun V2 => some (0, L, V2)
  | some (.inr k, _) => if k = 2 then some (1, g_oL L, V) else none
set_option maxHeartbeats 4000000 in
set_option maxRecDepth 100000 in
theorem c_W_share (l : Launch) (hfl : l.flags = flags0) (E : gE) (base : Nat) (sa : Nat → Nat) (p0 p1 : Nat) (L : gL) (V : gV) {z : Int32 × gL × gV} (h : D_W_share p0 p1 L V = some z) : g_MetW l E base sa y_W_share b_W_share 3 (some .int) [(0, 8, 11, 21)] rm_W_share [tR (some p0), tR (some p1)] L V (some (tI z.1)) z.2.1 z.2.2 := by
  refine r_enterW R_W (by decide) rfl [tR (some p0), tR (some p1)] [(0, tR (some p0)), (1, tR (some p1))] rfl (Nat.le_of_ble_eq_true rfl) ?_
  intro p e s m args below meth c C hr hT hH
  unfold D_W_share at h
  replace h := g_ob h; obtain ⟨nx, e_nx, h⟩ := h
  refine r_aload_n (x := some p1) C d_W_share_0 rfl rfl ?_
  refine r_iconst C (0 : Int32) d_W_share_1 (by decide) ?_
  refine r_aload_n (x := some p0) C d_W_share_2 rfl rfl ?_
  cases hA : D_A_share p0 L V with
  | none => rw [hA] at h; cases h
  | some w =>
    obtain ⟨w1, V1⟩ := w
    rw [hA] at h
    cases w1 with
    | inl v =>
      replace h := g_ob h; obtain ⟨V2, e_V2, h⟩ := h
      refine r_callV (As := []) C k_W_17 w_353 w_354 w_355 ⟨_, _, rfl⟩ (c_A_share l E base base p0 L V hA) d_W_share_3 e_nx rfl ⟨Nat.le_of_ble_eq_true rfl, Nat.le_of_ble_eq_true rfl⟩ (Nat.le_of_ble_eq_true rfl) (Nat.le_of_ble_eq_true rfl) (Nat.le_of_ble_eq_true rfl) rfl ?_
      refine r_i2l C d_W_share_6 ?_
      refine r_last C ak_101 d_W_share_7 e_V2 ?_
      refine r_goto C 14 d_W_share_8 (by decide) ?_
      refine r_iconst C (0 : Int32) d_W_share_14 (by decide) ?_
      cases h
      exact r_iret C hr d_W_share_15
    | inr k =>
      replace h : (if k = 2 then some ((1 : Int32), g_oL L, V) else none) = some z := h
      by_cases k0 : k = 2
      · subst k0
        cases h
        refine r_catch (As := []) C hT k_W_17 w_353 w_354 w_355 ⟨_, _, rfl⟩ (k := 2) (cT_A_share l hfl E base sa p0 L V hA) rfl rfl d_W_share_3 e_nx rfl ⟨Nat.le_of_ble_eq_true rfl, Nat.le_of_ble_eq_true rfl⟩ (Nat.le_of_ble_eq_true rfl) (Nat.le_of_ble_eq_true rfl) (Nat.le_of_ble_eq_true rfl) rfl (x_find1 C.2.2.2.1 hT (by decide) hH (by decide) (by decide) (by decide) (C.2.2.2.2.1 _ w_356)) ?_
        refine r_astore_n (lv' := [(2, tR (some L.1)), (0, tR (some p0)), (1, tR (some p1))]) C d_W_share_11 rfl (by decide) rfl ?_
        refine r_iconst C (1 : Int32) d_W_share_12 (by decide) ?_
        exact r_iret C hr d_W_share_13
      · rw [if_neg k0] at h; cases h
