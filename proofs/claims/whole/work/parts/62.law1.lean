def zOut (x : Int32) (n : Nat) : Prop := x < 0 ∨ ∃ j, j < 2 ^ 31 ∧ n ≤ j ∧ x = nI j
theorem z_dI (x : Int32) (n : Nat) : (∃ s, s < n ∧ s < 2 ^ 31 ∧ x = nI s) ∨ zOut x n := by
  by_cases h : x < 0
  · exact Or.inr (Or.inl h)
  · obtain ⟨j, hj, rfl⟩ := nI_of h
    by_cases g : j < n
    · exact Or.inl ⟨j, g, hj, rfl⟩
    · exact Or.inr (Or.inr ⟨j, hj, by omega, rfl⟩)
theorem i10 : ((1 : Int32) = 0) = False := by simp
theorem i00 : ((0 : Int32) = 0) = True := by simp
theorem Cp.o0 {A : vA} {M : vM} (C : Cp A M) (x : Int32) : Cp A { M with fst.fst.fst := up1 M.1.1.1 0 x } := by
  refine ⟨C.W, C.V.of rfl rfl rfl, ⟨C.F.k1, C.F.k2, C.F.fz, C.F.fj, C.F.fi, C.F.fc, C.F.f0, C.F.hi⟩, fun r hr => ?_, ⟨C.N.c, C.N.t, ?_, ?_⟩, C.c4⟩
  · have h := C.S r hr
    exact ⟨h.j4, h.j5, h.nr, h.nc, h.fo, h.st, h.ca, h.rd, h.ok, fun k hk => ⟨(h.en k hk).f, (h.en k hk).y, (h.en k hk).c, (h.en k hk).w, (h.en k hk).h⟩, h.inj⟩
  · show up1 M.1.1.1 0 x 23 = _; simp only [up1]; exact C.N.u
  · show up1 M.1.1.1 0 x 24 = _; simp only [up1]; exact C.N.l
section
variable {b : Nat} {A : vA} {M : vM} {o : Int64} {L : gL} {V : gV}
theorem a_stepIn (R : RZ b A M o L V) (W : WA A) {s : Nat} (hs : s < A.1.1.1.2) : D_A_stepAt b (nI s) L V = some (some (A.1.1.2.2.1 s), V) := by
  have := W.ns
  rw [a_stepAt R W (by omega), if_pos hs]
theorem a_stepOut (R : RZ b A M o L V) (W : WA A) {x : Int32} (h : zOut x A.1.1.1.2) : D_A_stepAt b x L V = some (none, V) := by
  rcases h with h | ⟨j, hj, hn, rfl⟩
  · simp only [D_A_stepAt, h, if_true]
  · rw [a_stepAt R W hj, if_neg (by omega)]
theorem a_srcIn (R : RZ b A M o L V) (W : WA A) {s : Nat} (hs : s < A.1.1.1.1) : D_A_sourceAt b (nI s) L V = some (some (A.1.1.2.1 s), V) := by
  have := W.nf
  rw [a_sourceAt R W (by omega), if_pos hs]
theorem a_srcOut (R : RZ b A M o L V) (W : WA A) {x : Int32} (h : zOut x A.1.1.1.1) : D_A_sourceAt b x L V = some (none, V) := by
  rcases h with h | ⟨j, hj, hn, rfl⟩
  · simp only [D_A_sourceAt, h, if_true]
  · rw [a_sourceAt R W hj, if_neg (by omega)]
theorem e_stepIn (R : RZ b A M o L V) (hk : M.1.1.2.1 2 ≤ 16) {s : Nat} (hs : s < M.1.1.2.1 2) : D_M_isStep (b + 5) (nI s) L V = some (1, V) := by
  have e1 : g_rI L V 4 (b + 5) 2 = some (nI (M.1.1.2.1 2)) := R.r_mC (Or.inr rfl)
  simp (disch := omega) only [D_M_isStep, nI_lt0, if_false, e1, q_bd, nI_lep]
  rw [if_neg (by omega)]
theorem e_stepOut (R : RZ b A M o L V) (hk : M.1.1.2.1 2 ≤ 16) {x : Int32} (h : zOut x (M.1.1.2.1 2)) : D_M_isStep (b + 5) x L V = some (0, V) := by
  have e1 : g_rI L V 4 (b + 5) 2 = some (nI (M.1.1.2.1 2)) := R.r_mC (Or.inr rfl)
  rcases h with h | ⟨j, hj, hn, rfl⟩
  · simp only [D_M_isStep, h, if_true]
  · simp (disch := omega) only [D_M_isStep, nI_lt0, if_false, e1, q_bd, nI_lep]
    rw [if_pos hn]
theorem e_srcIn (R : RZ b A M o L V) (hk : M.1.1.2.1 1 ≤ 16) {s : Nat} (hs : s < M.1.1.2.1 1) : D_M_isFile (b + 5) (nI s) L V = some (1, V) := by
  have e1 : g_rI L V 4 (b + 5) 1 = some (nI (M.1.1.2.1 1)) := R.r_mC (Or.inl rfl)
  simp (disch := omega) only [D_M_isFile, nI_lt0, if_false, e1, q_bd, nI_lep]
  rw [if_neg (by omega)]
theorem e_srcOut (R : RZ b A M o L V) (hk : M.1.1.2.1 1 ≤ 16) {x : Int32} (h : zOut x (M.1.1.2.1 1)) : D_M_isFile (b + 5) x L V = some (0, V) := by
  have e1 : g_rI L V 4 (b + 5) 1 = some (nI (M.1.1.2.1 1)) := R.r_mC (Or.inl rfl)
  rcases h with h | ⟨j, hj, hn, rfl⟩
  · simp only [D_M_isFile, h, if_true]
  · simp (disch := omega) only [D_M_isFile, nI_lt0, if_false, e1, q_bd, nI_lep]
    rw [if_pos hn]
variable {Ln : Nat} {xs : Nat → Int32} {v4 x1 x2 x3 x4 : Int32} {K : gL → gV → Option Unit}
def zGo (b : Nat) (L0 : gL) (K : gL → gV → Option Unit) : Prop := ∀ A M o L V, L.2 = L0.2 → RZ b A M o L V → Cp A M → K L V = some ()
theorem l_8 (R : RZ b A M o L V) (C : Cp A M) (g1 : g_sx Ln xs (v4 + 1) = some x1) (hK : zGo b L K) : D_L8 Ln xs b (b + 5) (b + 26) v4 K L V = some () := by
  have W := C.W
  have h16 := W.ns
  have k2 := C.F.k2
  obtain ⟨V1, e1, R1⟩ := R.w_mo (j := 0) (Or.inl rfl) 0
  have C1 := C.o0 0
  rcases z_dI x1 A.1.1.1.2 with ⟨s, hs, _, rfl⟩ | hx
  · simp (disch := omega) only [D_L8, g1, q_bd, R.z_3, D_A_state, a_stepIn R W hs, q_b2, q_on1, R.r_sI, R.z_4, D_M_state, e1, R1.z_4, e_stepIn R1 (s := s) (by show M.1.1.2.1 2 ≤ 16; omega) (by show s < M.1.1.2.1 2; omega), i10, if_false, R1.r_mP, R1.r_mI, (C.S s hs).st, if_true]
    exact hK _ _ _ _ _ rfl R1 C1
  · simp (disch := omega) only [D_L8, g1, q_bd, R.z_3, D_A_state, a_stepOut R W hx, q_b2, q_on0, R.z_4, D_M_state, e1, e_stepOut R1 (x := x1) (by show M.1.1.2.1 2 ≤ 16; omega) (by show zOut x1 (M.1.1.2.1 2); rw [k2]; exact hx), i00, if_true, R1.z_4]
    exact hK _ _ _ _ _ rfl R1 C1
theorem l_9 (R : RZ b A M o L V) (C : Cp A M) (g1 : g_sx Ln xs (v4 + 1) = some x1) (hK : zGo b L K) : D_L9 Ln xs b (b + 5) (b + 26) v4 K L V = some () := by
  have W := C.W
  have h16 := W.ns
  have k2 := C.F.k2
  obtain ⟨V1, e1, R1⟩ := R.w_mo (j := 0) (Or.inl rfl) 0
  have C1 := C.o0 0
  rcases z_dI x1 A.1.1.1.2 with ⟨s, hs, _, rfl⟩ | hx
  · simp (disch := omega) only [D_L9, g1, q_bd, R.z_3, D_A_cause, a_stepIn R W hs, q_b2, q_on1, R.r_sI, R.z_4, D_M_cause, D_M_cause_33, e1, R1.z_4, e_stepIn R1 (s := s) (by show M.1.1.2.1 2 ≤ 16; omega) (by show s < M.1.1.2.1 2; omega), i10, if_false, R1.r_mP, R1.r_mI]
    have h := C.S s hs
    rw [h.ca]
    rw [h.st]
    by_cases q2 : A.2.1.2.2.1 9 s = 2
    · rw [if_pos (Or.inl q2), if_pos q2, q_b2, if_pos rfl]; exact hK _ _ _ _ _ rfl R1 C1
    · rw [if_neg q2]
      by_cases q3 : A.2.1.2.2.1 9 s = 3
      · rw [if_pos (Or.inr q3), if_pos q3, q_b2, if_pos rfl]; exact hK _ _ _ _ _ rfl R1 C1
      · rw [if_neg q3, if_neg (fun q => q.elim q2 q3), q_b2, if_pos rfl]; exact hK _ _ _ _ _ rfl R1 C1
  · simp (disch := omega) only [D_L9, g1, q_bd, R.z_3, D_A_cause, a_stepOut R W hx, q_b2, q_on0, R.z_4, D_M_cause, e1, e_stepOut R1 (x := x1) (by show M.1.1.2.1 2 ≤ 16; omega) (by show zOut x1 (M.1.1.2.1 2); rw [k2]; exact hx), i00, if_true, R1.z_4]
    exact hK _ _ _ _ _ rfl R1 C1
theorem l_12 (R : RZ b A M o L V) (C : Cp A M) (g1 : g_sx Ln xs (v4 + 1) = some x1) (hK : zGo b L K) : D_L12 Ln xs b (b + 5) (b + 26) v4 K L V = some () := by
  have W := C.W
  have h16 := W.ns
  have k2 := C.F.k2
  obtain ⟨V1, e1, R1⟩ := R.w_mo (j := 0) (Or.inl rfl) 0
  have C1 := C.o0 0
  rcases z_dI x1 A.1.1.1.2 with ⟨s, hs, _, rfl⟩ | hx
  · simp (disch := omega) only [D_L12, g1, q_bd, R.z_3, D_A_records, a_stepIn R W hs, q_b2, q_on1, R.r_sN, R.z_4, D_M_records, e1, R1.z_4, e_stepIn R1 (s := s) (by show M.1.1.2.1 2 ≤ 16; omega) (by show s < M.1.1.2.1 2; omega), i10, if_false, R1.r_mP, R1.r_mN, (C.S s hs).nc, if_true]
    exact hK _ _ _ _ _ rfl R1 C1
  · simp (disch := omega) only [D_L12, g1, q_bd, R.z_3, D_A_records, a_stepOut R W hx, q_b2, q_on0, R.z_4, D_M_records, e1, e_stepOut R1 (x := x1) (by show M.1.1.2.1 2 ≤ 16; omega) (by show zOut x1 (M.1.1.2.1 2); rw [k2]; exact hx), i00, if_true, R1.z_4]
    exact hK _ _ _ _ _ rfl R1 C1
theorem l_10 (R : RZ b A M o L V) (C : Cp A M) (g1 : g_sx Ln xs (v4 + 1) = some x1) (hK : zGo b L K) : D_L10 Ln xs b (b + 5) (b + 26) v4 K L V = some () := by
  obtain ⟨V1, e1, R1⟩ := R.w_mo (j := 0) (Or.inl rfl) 0
  have C1 := C.o0 0
  by_cases h : x1 < 0
  · simp only [D_L10, g1, q_bd, R.z_3, D_A_counted, h, if_true, q_b2, R.z_4, D_M_counted, D_M_counted_14, e1]
    exact hK _ _ _ _ _ rfl R1 C1
  · obtain ⟨j, hj, rfl⟩ := nI_of h
    have c5 : (nI j < (5 : Int32)) = (j < 5) := nI_ltp hj (c := 5) (by omega)
    have c4 : (nI j ≤ (4 : Int32)) = (j ≤ 4) := nI_lep hj (c := 4) (by omega)
    by_cases g : j < 5
    · have ee : M.1.2.2.2 j = A.1.2.2.1 j := by
        by_cases q : j = 4
        · subst q; exact C.c4
        · exact C.N.c j (by omega)
      simp (disch := omega) only [D_L10, g1, q_bd, R.z_3, D_A_counted, h, if_false, c5, g, if_true, R.r_aP4, R.r_ac, q_b2, R.z_4, D_M_counted, e1, c4, show j ≤ 4 by omega, R1.r_mP, R1.r_mc, ee]
      exact hK _ _ _ _ _ rfl R1 C1
    · simp only [D_L10, g1, q_bd, R.z_3, D_A_counted, h, if_false, c5, g, q_b2, R.z_4, D_M_counted, D_M_counted_14, e1, c4, show ¬ j ≤ 4 by omega, if_true]
      exact hK _ _ _ _ _ rfl R1 C1
theorem l_15 (R : RZ b A M o L V) (C : Cp A M) (g1 : g_sx Ln xs (v4 + 1) = some x1) (hK : zGo b L K) : D_L15 Ln xs b (b + 5) (b + 26) v4 K L V = some () := by
  obtain ⟨V1, e1, R1⟩ := R.w_mo (j := 0) (Or.inl rfl) 0
  have C1 := C.o0 0
  by_cases h : x1 < 0
  · simp only [D_L15, g1, q_bd, R.z_3, D_A_total, h, if_true, q_b2, R.z_4, D_M_total, D_M_total_14, e1]
    exact hK _ _ _ _ _ rfl R1 C1
  · obtain ⟨j, hj, rfl⟩ := nI_of h
    have c5 : (nI j < (4 : Int32)) = (j < 4) := nI_ltp hj (c := 4) (by omega)
    have c4 : (nI j ≤ (3 : Int32)) = (j ≤ 3) := nI_lep hj (c := 3) (by omega)
    by_cases g : j < 4
    · have ee : M.2.1.1 j = A.1.2.2.2.1 j := C.N.t j g
      simp (disch := omega) only [D_L15, g1, q_bd, R.z_3, D_A_total, h, if_false, c5, g, if_true, R.r_aP5, R.r_at, q_b2, R.z_4, D_M_total, e1, c4, show j ≤ 3 by omega, R1.r_mP, R1.r_mt, ee]
      exact hK _ _ _ _ _ rfl R1 C1
    · simp only [D_L15, g1, q_bd, R.z_3, D_A_total, h, if_false, c5, g, q_b2, R.z_4, D_M_total, D_M_total_14, e1, c4, show ¬ j ≤ 3 by omega, if_true]
      exact hK _ _ _ _ _ rfl R1 C1
end
