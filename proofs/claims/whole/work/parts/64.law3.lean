section
variable {b : Nat} {A : vA} {M : vM} {o : Int64} {L : gL} {V : gV}
variable {Ln : Nat} {xs : Nat → Int32} {v4 x1 x2 x3 x4 : Int32} {K : gL → gV → Option Unit}
theorem zLay.up {b n m : Nat} {A : vA} (h : zLay b A n) (g : n ≤ m) : zLay b A m := ⟨Nat.le_trans h.low g, fun f hf => ⟨(h.src f hf).1, Nat.lt_of_lt_of_le (h.src f hf).2 g⟩, h.inj, fun s hs => ⟨(h.stp s hs).1, Nat.le_trans (h.stp s hs).2 g⟩, h.sep⟩
theorem RZ.oL (R : RZ b A M o L V) : RZ b A M o (g_oL L) V := ⟨R.lay.up (by simp [g_oL]), R.siz, R.val⟩
theorem RZ.w_o0 (R : RZ b A M o L V) (x : Int64) : ∃ V1, g_wa L V 101 (b + 26) (0 : Int32) (tJ x) = some V1 ∧ RZ b A M x L V1 := R.w_ou x
theorem RZ.r_o0 (R : RZ b A M o L V) : g_aJ L V 101 (b + 26) (0 : Int32) = some o := R.r_ou
theorem e_thrown (R : RZ b A M o L V) : D_M_thrown (b + 5) L V = some (M.1.1.1 0, V) := by
  simp (disch := omega) only [D_M_thrown, R.r_mo, q_bd]
theorem o_get (O : Nat → Int32) (x : Int32) : up1 O 0 x 0 = x := by simp [up1]
theorem e_out22 (R : RZ b A M o L V) (x1 x2 : Int32) : ∃ V1, D_M_output_22 L (b + 5) x1 x2 V = some (0, V1) ∧ RZ b A { M with fst.fst.fst := up1 M.1.1.1 0 1 } o L V1 := by
  obtain ⟨V1, e1, R1⟩ := R.w_mo (j := 0) (Or.inl rfl) 1
  refine ⟨V1, ?_, R1⟩
  simp (disch := omega) only [D_M_output_22, D_M_output_43, e1, q_bd, R1.r_mo, o_get, i10, if_false]
theorem e_out43 (R : RZ b A M o L V) {s p : Nat} (hs : s < 16) (hp : p < 2 ^ 31) (h0 : M.1.1.1 0 = 0) : D_M_output_43 L (b + 5) (nI s) (nI p) V = some (m_pt M s p, V) := by
  simp (disch := omega) only [D_M_output_43, R.r_mo, q_bd, h0, i00, if_true, R.z_4, e_partOf R, q_b2]
theorem c_11 (R : RZ b A M o L V) (C : Cp A M) (x1 x2 : Int32) :
    (D_A_output b x1 x2 L V = some (.inr 0, V) ∧ ∀ o' L' V', RZ b A M o' L' V' → ∃ y V1 M1, D_M_output (b + 5) x1 x2 L' V' = some (y, V1) ∧ RZ b A M1 o' L' V1 ∧ Cp A M1 ∧ M1.1.1.1 0 = 1)
    ∨ (D_A_output b x1 x2 L V = some (.inr 1, V) ∧ ∀ o' L' V', RZ b A M o' L' V' → ∃ y V1 M1, D_M_output (b + 5) x1 x2 L' V' = some (y, V1) ∧ RZ b A M1 o' L' V1 ∧ Cp A M1 ∧ M1.1.1.1 0 = 2)
    ∨ (∃ y, D_A_output b x1 x2 L V = some (.inl y, V) ∧ ∀ o' L' V', RZ b A M o' L' V' → ∃ V1 M1, D_M_output (b + 5) x1 x2 L' V' = some (y, V1) ∧ RZ b A M1 o' L' V1 ∧ Cp A M1 ∧ M1.1.1.1 0 = 0) := by
  have W := C.W
  have h16 := W.ns
  have k2 := C.F.k2
  have C1 := C.o0 0
  rcases z_dI x1 A.1.1.1.2 with ⟨s, hs, _, rfl⟩ | hx
  · have h := C.S s hs
    have n3 := W.nc s hs
    by_cases hp : x2 = 0 ∨ x2 = 1
    · obtain ⟨p, p2, rfl⟩ : ∃ p, p < 2 ∧ x2 = nI p := by
        rcases hp with rfl | rfl
        · exact ⟨0, by omega, rfl⟩
        · exact ⟨1, by omega, rfl⟩
      have ip : D_A_isPart (nI p) L V = some (1, V) := by
        have : p = 0 ∨ p = 1 := by omega
        rcases this with rfl | rfl <;> simp [D_A_isPart, D_A_isPart_9, nI]
      have c1 : (nI p ≤ (1 : Int32)) = True := eq_true ((nI_leI (b := 1) (by omega) (by omega)).2 (by omega))
      have mo : ∀ o' L' V', RZ b A M o' L' V' → ∃ V1, RZ b A { M with fst.fst.fst := up1 M.1.1.1 0 0 } o' L' V1 ∧ D_M_output (b + 5) (nI s) (nI p) L' V' = (if m_ho M s = false then Option.bind (g_wr L' V1 4 (b + 5) 0 (tI (2 : Int32))) fun V6 => D_M_output_43 L' (b + 5) (nI s) (nI p) V6 else D_M_output_43 L' (b + 5) (nI s) (nI p) V1) := by
        intro o' L' V' R'
        obtain ⟨V1, e1, R1⟩ := R'.w_mo (j := 0) (Or.inl rfl) 0
        refine ⟨V1, R1, ?_⟩
        have es := e_stepIn R1 (s := s) (by show M.1.1.2.1 2 ≤ 16; omega) (by show s < M.1.1.2.1 2; omega)
        have eh := e_hasOutput R1 C1.V (s := s) (by omega)
        simp (disch := omega) only [D_M_output, e1, q_bd, R'.z_4, es, q_b2, i10, if_false, nI_lt0, c1, if_true, eh, bI_0]
        rfl
      have ao : D_A_output b (nI s) (nI p) L V = (if A.2.1.1.2 5 s = 0 then some (.inr 1, V) else if A.2.2.1.2 s (A.2.2.1.1 s 0) = -1 then some (.inl (if p = 0 then A.2.2.2.1 3 s (A.2.2.1.1 s 0) else A.2.2.2.1 4 s (A.2.2.1.1 s 0)), V) else some (.inr 1, V)) := by
        simp (disch := omega) only [D_A_output, D_A_output_47, R.z_3, q_bd, a_stepIn R W hs, q_b2, q_on1, ip, i10, if_false, R.z_2, a_entryAt0 R W hs]
        by_cases g0 : A.2.1.1.2 5 s = 0
        · simp only [g0, if_true, q_on0]
        · have hp0 := W.pm s 0 hs (by omega)
          simp (disch := omega) only [g0, if_false, q_on1, R.z_0, q_bd, a_hasFailed R hs, q_b2, bI_0, a_partOfOutput R hs]
          by_cases g1 : A.2.2.1.2 s (A.2.2.1.1 s 0) = -1
          · simp only [g1, ne_eq, not_true_eq_false, decide_false, if_true]
          · simp only [g1, ne_eq, not_false_eq_true, decide_true, if_false, Bool.true_eq_false]
      by_cases g : 0 < A.2.1.1.2 5 s ∧ A.2.2.1.2 s (A.2.2.1.1 s 0) = -1
      · right; right
        have e := h.en 0 g.1
        have ho : m_ho M s = true := by unfold m_ho; rw [h.nc, ← e.f]; simp [g]
        refine ⟨m_pt M s p, ?_, fun o' L' V' R' => ?_⟩
        · rw [ao, if_neg (by omega), if_pos g.2]
          congr 3
          unfold m_pt
          by_cases q : p = 0
          · rw [if_pos q, if_pos q, e.c, h.j4]
          · rw [if_neg q, if_neg q, e.y]
        · obtain ⟨V1, R1, em⟩ := mo o' L' V' R'
          refine ⟨V1, _, ?_, R1, C1, o_get M.1.1.1 0⟩
          rw [em, if_neg (by rw [ho]; decide), e_out43 R1 (by omega) (by omega) (o_get M.1.1.1 0)]
          rfl
      · right; left
        have ho : m_ho M s = false := by
          unfold m_ho
          rw [h.nc]
          refine decide_eq_false fun q => g ⟨q.1, ?_⟩
          rw [(h.en 0 q.1).f]; exact q.2
        refine ⟨?_, fun o' L' V' R' => ?_⟩
        · rw [ao]
          by_cases g0 : A.2.1.1.2 5 s = 0
          · rw [if_pos g0]
          · rw [if_neg g0, if_neg (fun q => g ⟨by omega, q⟩)]
        · obtain ⟨V1, R1, em⟩ := mo o' L' V' R'
          obtain ⟨V2, e2, R2⟩ := R1.w_mo (j := 0) (Or.inl rfl) 2
          refine ⟨0, V2, _, ?_, R2, C1.o0 2, o_get (up1 M.1.1.1 0 0) 2⟩
          rw [em, if_pos ho, e2, q_bd]
          simp (disch := omega) only [D_M_output_43, R2.r_mo, q_bd, o_get]
          rfl
    · left
      refine ⟨?_, fun o' L' V' R' => ?_⟩
      · have ip : D_A_isPart x2 L V = some (0, V) := by
          simp only [D_A_isPart, show ¬ x2 = 0 from fun q => hp (Or.inl q), show ¬ x2 = 1 from fun q => hp (Or.inr q), if_false]
        simp only [D_A_output, D_A_output_17, R.z_3, q_bd, a_stepIn R W hs, q_b2, q_on1, ip, i00, if_true]
      · obtain ⟨V1, e1, R1⟩ := R'.w_mo (j := 0) (Or.inl rfl) 0
        obtain ⟨V2, e2, R2⟩ := e_out22 R1 (nI s) x2
        have es := e_stepIn R1 (s := s) (by show M.1.1.2.1 2 ≤ 16; omega) (by show s < M.1.1.2.1 2; omega)
        refine ⟨0, V2, _, ?_, R2, C1.o0 1, o_get (up1 M.1.1.1 0 0) 1⟩
        simp only [D_M_output, e1, q_bd, R'.z_4, es, q_b2, i10, if_false]
        by_cases hn : x2 < 0
        · simp only [hn, if_true]; exact e2
        · obtain ⟨j, hj, rfl⟩ := nI_of hn
          have : ¬ (nI j ≤ (1 : Int32)) := by
            intro q
            have := (nI_leI (b := 1) hj (by omega)).1 q
            have hj' : j = 0 ∨ j = 1 := by omega
            rcases hj' with rfl | rfl
            · exact hp (Or.inl rfl)
            · exact hp (Or.inr rfl)
          simp only [hn, this, if_false]; exact e2
  · left
    refine ⟨?_, fun o' L' V' R' => ?_⟩
    · simp only [D_A_output, D_A_output_17, R.z_3, q_bd, a_stepOut R W hx, q_b2, q_on0]
    · obtain ⟨V1, e1, R1⟩ := R'.w_mo (j := 0) (Or.inl rfl) 0
      obtain ⟨V2, e2, R2⟩ := e_out22 R1 x1 x2
      refine ⟨0, V2, _, ?_, R2, C1.o0 1, o_get (up1 M.1.1.1 0 0) 1⟩
      simp only [D_M_output, e1, q_bd, R'.z_4, e_stepOut R1 (x := x1) (by show M.1.1.2.1 2 ≤ 16; omega) (by show zOut x1 (M.1.1.2.1 2); rw [k2]; exact hx), q_b2, i00, if_true]
      exact e2
theorem l_11 (R : RZ b A M o L V) (C : Cp A M) (g1 : g_sx Ln xs (v4 + 1) = some x1) (g2 : g_sx Ln xs (v4 + 2) = some x2) (hK : zGo b L K) : D_L11 Ln xs b (b + 5) (b + 26) v4 K L V = some () := by
  rcases c_11 R C x1 x2 with ⟨ea, hm⟩ | ⟨ea, hm⟩ | ⟨y, ea, hm⟩
  · obtain ⟨y, V1, M1, em, R1, C1, h0⟩ := hm _ _ _ R.oL
    have ew : D_W_output b x1 x2 (b + 26) L V = some (1, g_oL L, V) := by simp [D_W_output, R.z_3, ea]
    simp only [D_L11, g1, g2, q_bd, ew, q_b3, R.oL.z_4, em, q_b2, e_thrown R1, h0, if_true, i10, if_false]
    exact hK _ _ _ _ _ rfl R1 C1
  · obtain ⟨y, V1, M1, em, R1, C1, h0⟩ := hm _ _ _ R.oL
    have ew : D_W_output b x1 x2 (b + 26) L V = some (2, g_oL L, V) := by simp [D_W_output, R.z_3, ea]
    simp only [D_L11, g1, g2, q_bd, ew, q_b3, R.oL.z_4, em, q_b2, e_thrown R1, h0, if_true, show ((2 : Int32) = 0) = False by simp, if_false]
    exact hK _ _ _ _ _ rfl R1 C1
  · obtain ⟨V0, e0, R0⟩ := R.w_o0 y
    obtain ⟨V1, M1, em, R1, C1, h0⟩ := hm _ _ _ R0
    have ew : D_W_output b x1 x2 (b + 26) L V = some (0, L, V0) := by simp [D_W_output, R.z_3, ea, e0]
    simp only [D_L11, g1, g2, q_bd, ew, q_b3, R0.z_4, em, q_b2, e_thrown R1, h0, if_true, R1.r_o0, lg_cmp_self]
    exact hK _ _ _ _ _ rfl R1 C1
end
