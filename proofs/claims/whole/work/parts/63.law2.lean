section
variable {b : Nat} {A : vA} {M : vM} {o : Int64} {L : gL} {V : gV}
variable {Ln : Nat} {xs : Nat → Int32} {v4 x1 x2 x3 x4 : Int32} {K : gL → gV → Option Unit}
theorem lg_cmp_self (x : Int64) : (lg_cmp x x = 0) = True := eq_true ((lg_cmp_eq x x).2 rfl)
theorem c_13 (R : RZ b A M o L V) (C : Cp A M) (x1 x2 x3 : Int32) : ∃ y V1, D_A_record b x1 x2 x3 L V = some (y, V) ∧ D_M_record (b + 5) x1 x2 x3 L V = some (y, V1) ∧ RZ b A { M with fst.fst.fst := up1 M.1.1.1 0 0 } o L V1 := by
  have W := C.W
  have h16 := W.ns
  have k2 := C.F.k2
  obtain ⟨V1, e1, R1⟩ := R.w_mo (j := 0) (Or.inl rfl) 0
  rcases z_dI x1 A.1.1.1.2 with ⟨s, hs, _, rfl⟩ | hx
  · have h := C.S s hs
    have n6 := W.nr s hs
    have n3 := W.nc s hs
    have es := e_stepIn R1 (s := s) (by show M.1.1.2.1 2 ≤ 16; omega) (by show s < M.1.1.2.1 2; omega)
    have r9 : g_aI L V1 100 (b + 3 + 9) (nI s) = some (nI (A.2.1.1.2 3 s)) := by rw [R1.r_mN (q := 9) (by omega)]; show some (nI (M.2.1.2.1 9 s)) = _; rw [h.nr]
    have r12 : g_aI L V1 100 (b + 3 + 12) (nI s) = some (nI (A.2.1.1.2 5 s)) := by rw [R1.r_mN (q := 12) (by omega)]; show some (nI (M.2.1.2.1 12 s)) = _; rw [h.nc]
    simp (disch := omega) only [q_bd, R.z_3, D_A_record, a_stepIn R W hs, q_b2, q_on1, R.r_sN, R.z_2, R.z_4, D_M_record, D_M_record_41, e1, R1.z_4, es, i10, if_false, R1.r_mP, r9, r12]
    by_cases p3 : x3 < 0
    · refine ⟨0, V1, by simp only [p3, if_true], ?_, R1⟩
      simp only [p3, if_true]
      split
      · rfl
      · split <;> rfl
    · obtain ⟨i, hi, rfl⟩ := nI_of p3
      simp (disch := omega) only [p3, if_false, nI_ltp]
      rcases a_entryAt R W hs x2 with ⟨p2, ee⟩ | ⟨k, hk, rfl, ee⟩
      · refine ⟨0, V1, ?_, by simp only [p2, if_true], R1⟩
        simp only [ee, q_b2, q_on0]
        split <;> rfl
      · simp (disch := omega) only [ee, nI_lt0, if_false, nI_lep, q_b2]
        by_cases q : i < A.2.1.1.2 3 s
        · simp only [q, if_true]
          by_cases q5 : k < A.2.1.1.2 5 s
          · have hp := W.pm s k hs (by omega)
            refine ⟨M.2.2.2.1 s k i, V1, ?_, ?_, R1⟩
            · simp (disch := omega) only [q5, if_true, q_on1, R.r_eP, q_bd, R.r_eW, (h.en k q5).w i q]
            · simp (disch := omega) only [show ¬ A.2.1.1.2 5 s ≤ k by omega, if_false, D_M_record4, nI_m4, nI_add, q_b2, q_bd, nI_m6, R1.r_mW]
          · refine ⟨0, V1, by simp only [q5, if_false, q_on0], by simp only [show A.2.1.1.2 5 s ≤ k by omega, if_true], R1⟩
        · refine ⟨0, V1, by simp only [q, if_false], ?_, R1⟩
          simp only [q, if_false]
          split <;> rfl
  · refine ⟨0, V1, ?_, ?_, R1⟩
    · simp only [D_A_record, q_bd, R.z_3, a_stepOut R W hx, q_b2, q_on0]
    · simp only [D_M_record, D_M_record_41, e1, q_bd, R1.z_4, R.z_4, e_stepOut R1 (x := x1) (by show M.1.1.2.1 2 ≤ 16; omega) (by show zOut x1 (M.1.1.2.1 2); rw [k2]; exact hx), q_b2, i00, if_true]
theorem l_13 (R : RZ b A M o L V) (C : Cp A M) (g1 : g_sx Ln xs (v4 + 1) = some x1) (g2 : g_sx Ln xs (v4 + 2) = some x2) (g3 : g_sx Ln xs (v4 + 3) = some x3) (hK : zGo b L K) : D_L13 Ln xs b (b + 5) (b + 26) v4 K L V = some () := by
  obtain ⟨y, V1, e1, e2, R1⟩ := c_13 R C x1 x2 x3
  simp only [D_L13, g1, g2, g3, q_bd, R.z_3, e1, q_b2, R.z_4, e2, lg_cmp_self, if_true]
  exact hK _ _ _ _ _ rfl R1 (C.o0 0)
theorem c_14 (R : RZ b A M o L V) (C : Cp A M) (x1 x2 : Int32) : ∃ y V1, D_A_failed b x1 x2 L V = some (y, V) ∧ D_M_failed (b + 5) x1 x2 L V = some (y, V1) ∧ RZ b A { M with fst.fst.fst := up1 M.1.1.1 0 0 } o L V1 := by
  have W := C.W
  have h16 := W.ns
  have k2 := C.F.k2
  obtain ⟨V1, e1, R1⟩ := R.w_mo (j := 0) (Or.inl rfl) 0
  rcases z_dI x1 A.1.1.1.2 with ⟨s, hs, _, rfl⟩ | hx
  · have h := C.S s hs
    have n3 := W.nc s hs
    have es := e_stepIn R1 (s := s) (by show M.1.1.2.1 2 ≤ 16; omega) (by show s < M.1.1.2.1 2; omega)
    have r12 : g_aI L V1 100 (b + 3 + 12) (nI s) = some (nI (A.2.1.1.2 5 s)) := by rw [R1.r_mN (q := 12) (by omega)]; show some (nI (M.2.1.2.1 12 s)) = _; rw [h.nc]
    simp (disch := omega) only [q_bd, R.z_3, D_A_failed, a_stepIn R W hs, q_b2, q_on1, R.z_2, R.z_4, D_M_failed, D_M_failed_27, e1, R1.z_4, es, i10, if_false, R1.r_mP, r12]
    rcases a_entryAt R W hs x2 with ⟨p2, ee⟩ | ⟨k, hk, rfl, ee⟩
    · exact ⟨-1, V1, by simp only [ee, q_b2, q_on0], by simp only [p2, if_true], R1⟩
    · simp (disch := omega) only [ee, nI_lt0, if_false, nI_ltp, q_b2]
      by_cases q5 : k < A.2.1.1.2 5 s
      · have hp := W.pm s k hs (by omega)
        refine ⟨M.2.2.1.1 s k, V1, ?_, ?_, R1⟩
        · simp (disch := omega) only [q5, if_true, q_on1, R.r_eI, q_bd, (h.en k q5).f]
        · simp (disch := omega) only [q5, if_true, D_M_record4, nI_m4, nI_add, q_b2, q_bd, R1.r_mF]
      · exact ⟨-1, V1, by simp only [q5, if_false, q_on0], by simp only [q5, if_false], R1⟩
  · refine ⟨-1, V1, ?_, ?_, R1⟩
    · simp only [D_A_failed, q_bd, R.z_3, a_stepOut R W hx, q_b2, q_on0]
    · simp only [D_M_failed, D_M_failed_27, e1, q_bd, R1.z_4, R.z_4, e_stepOut R1 (x := x1) (by show M.1.1.2.1 2 ≤ 16; omega) (by show zOut x1 (M.1.1.2.1 2); rw [k2]; exact hx), q_b2, i00, if_true]
theorem l_14 (R : RZ b A M o L V) (C : Cp A M) (g1 : g_sx Ln xs (v4 + 1) = some x1) (g2 : g_sx Ln xs (v4 + 2) = some x2) (hK : zGo b L K) : D_L14 Ln xs b (b + 5) (b + 26) v4 K L V = some () := by
  obtain ⟨y, V1, e1, e2, R1⟩ := c_14 R C x1 x2
  simp only [D_L14, g1, g2, q_bd, R.z_3, e1, q_b2, R.z_4, e2, if_true]
  exact hK _ _ _ _ _ rfl R1 (C.o0 0)
theorem l_7 (R : RZ b A M o L V) (C : Cp A M) (g1 : g_sx Ln xs (v4 + 1) = some x1) (hK : zGo b L K) : D_L7 Ln xs b (b + 5) (b + 26) v4 K L V = some () := by
  obtain ⟨V1, e1, R1⟩ := a_build R C.W x1
  obtain ⟨V2, e2, R2⟩ := e_build R1 C.V x1
  obtain ⟨ea, C2⟩ := cp_build C x1
  simp only [D_L7, g1, q_bd, R.z_3, e1, q_b2, R1.z_4, e2, ea, if_true]
  exact hK _ _ _ _ _ rfl R2 C2
end
