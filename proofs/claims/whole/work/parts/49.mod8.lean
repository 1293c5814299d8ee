section
variable {b : Nat} {A : vA} {o : Int64} {L : gL}
theorem e_mk136 (K2 : Nat → Int32 → gV → Option (Unit × gV)) {s : Nat} (hs : s < 16) {M : vM} {V : gV} (R : RZ b A M o L V) : ∃ V', D_M_mark_136 L K2 (b + 5) (nI s) V = K2 (b + 5) (nI (s + 1)) V' ∧ RZ b A { M with fst.snd.snd.snd := up1 M.1.2.2.2 4 (M.1.2.2.2 4 + bI (M.1.2.1 22 s)) } o L V' := by
  obtain ⟨V1, e1, R1⟩ := R.w_mc (i := 4) (by omega) (M.1.2.2.2 4 + bI (M.1.2.1 22 s))
  rw [show nI 4 = (4 : Int32) from rfl] at e1
  refine ⟨V1, ?_, R1⟩
  simp (disch := omega) only [D_M_mark_136, R.r_mP, q_bd, R.r_c.2.2.2.2, R.r_mZ, bI_0, nI_1]
  by_cases g : M.1.2.1 22 s = true
  · simp only [g, bI_t] at e1
    simp only [g, Bool.true_eq_false, if_false, e1, q_bd]
  · simp only [Bool.not_eq_true] at g
    simp only [g, bI_f] at e1
    simp only [g, if_true, e1, q_bd]
theorem e_mk50 (K2 : Nat → Int32 → gV → Option (Unit × gV)) {s : Nat} (hs : s < 16) : ∀ (d k n : Nat) (M : vM) (V : gV), RZ b A M o L V → WM M → M.1.2.1 21 s = true → k + d = M.2.1.2.1 9 s → d < n → ∃ V', D_M_mark_50 L K2 n (b + 5) (nI s) (nI k) V = K2 (b + 5) (nI (s + 1)) V' ∧ RZ b A { M with fst.snd.fst := up2 M.1.2.1 22 s (M.1.2.1 22 s || z_any (m_mp M s) k d), fst.snd.snd.snd := up1 M.1.2.2.2 4 (M.1.2.2.2 4 + bI (M.1.2.1 22 s || z_any (m_mp M s) k d)) } o L V' := by
  intro d
  induction d with
  | zero =>
    intro k n M V R W ht hk hn
    obtain ⟨n, rfl⟩ : ∃ n', n = n' + 1 := ⟨n - 1, by omega⟩
    have h6 := W.nr s
    obtain ⟨V1, e1, R1⟩ := e_mk136 K2 hs R
    refine ⟨V1, ?_, R1.ext ?_⟩
    · simp (disch := omega) only [D_M_mark_50, R.r_mP, q_bd, R.r_mN, nI_lep, show M.2.1.2.1 9 s ≤ k by omega, if_true, e1]
    · intro p _
      cases p using zP_cas <;> simp only [zc, z_any, Bool.or_false]
      rename_i q u _
      congr 2
      unfold up2
      split
      · rename_i h; rw [h.1, h.2]
      · rfl
  | succ d ih =>
    intro k n M V R W ht hk hn
    obtain ⟨n, rfl⟩ : ∃ n', n = n' + 1 := ⟨n - 1, by omega⟩
    have h6 := W.nr s
    have hnk : ¬ M.2.1.2.1 9 s ≤ k := by omega
    have hv := W.rv s k hs (by omega)
    obtain ⟨V1, e1, R1⟩ := R.w_mZ (q := 22) (s := s) (by omega) (M.1.2.1 22 s || m_mp M s k)
    obtain ⟨V2, e2, R2⟩ := ih (k + 1) n _ V1 R1 (W.of rfl rfl rfl) ht (show k + 1 + d = M.2.1.2.1 9 s by omega) (by omega)
    refine ⟨V2, ?_, R2.ext ?_⟩
    · rw [← e2]
      simp (disch := omega) only [D_M_mark_50, D_M_mark_124, R.r_mP, q_bd, q_b2, R.r_mN, R.r_mZ, nI_lep, hnk, if_false, bI_0, ht, Bool.true_eq_false, R.z_4, e_isFileRead R, e_isAsWas0 R W, decide_eq_false_iff_not, nI_m6, nI_add, R.r_mR, nI_1]
      by_cases g1 : M.1.2.1 22 s = true
      · simp only [g1, Bool.true_or, bI_t] at e1
        simp only [g1, Bool.true_eq_false, if_false, e1, q_bd]
      · simp only [Bool.not_eq_true] at g1
        simp only [g1, Bool.false_or] at e1
        simp only [g1, if_true]
        by_cases g3 : M.2.1.2.2 11 s k = 2
        · simp only [m_mp, g3, if_true] at e1
          simp only [g3, not_true_eq_false, if_false]
          by_cases g4 : m_as M s 0 k = true
          · simp only [g4, Bool.not_true, bI_f] at e1
            simp only [g4, Bool.true_eq_false, if_false, e1, q_bd]
          · simp only [Bool.not_eq_true] at g4
            simp only [g4, Bool.not_false, bI_t] at e1
            simp only [g4, if_true, e1, q_bd]
        · simp only [m_mp, g3, if_false] at e1
          simp only [g3, not_false_eq_true, if_true]
          by_cases g4 : M.1.2.1 22 (M.2.1.2.2 10 s k) = true
          · simp only [g4, bI_t] at e1
            simp only [g4, Bool.true_eq_false, if_false, e1, q_bd]
          · simp only [Bool.not_eq_true] at g4
            simp only [g4, bI_f] at e1
            simp only [g4, if_true, e1, q_bd]
    · intro p _
      have ep : z_any (m_mp { M with fst.snd.fst := up2 M.1.2.1 22 s (M.1.2.1 22 s || m_mp M s k) } s) (k + 1) d = z_any (m_mp M s) (k + 1) d := by
        refine z_any_congr _ _ fun i h1 h2 => ?_
        have hv := W.rv s i hs (by omega)
        have ea : ∀ c, m_as { M with fst.snd.fst := up2 M.1.2.1 22 s c } s 0 i = m_as M s 0 i := fun _ => rfl
        simp only [m_mp, ea]
        by_cases g : M.2.1.2.2 11 s i = 2
        · simp only [g, if_true]
        · simp only [g, if_false, up2, show ¬ M.2.1.2.2 10 s i = s by omega, and_false]
      cases p using zP_cas <;> simp only [zc, ep]
      · rename_i q u _
        congr 2
        by_cases g : q = 22 ∧ u = s
        · obtain ⟨rfl, rfl⟩ := g
          simp [up2, z_any, Bool.or_assoc]
        · simp only [up2, g, if_false]
      · rename_i i _
        congr 1
        simp only [up2, and_self, if_true, z_any, Bool.or_assoc]
theorem e_mk2 : ∀ (d s n : Nat) (M : vM) (V : gV), RZ b A M o L V → WM M → s + d = M.1.1.2.1 2 → d < n → ∃ V', D_M_mark_2 L n (b + 5) (nI s) V = some ((), V') ∧ RZ b A (m_mk s d M) o L V' := by
  intro d
  induction d with
  | zero =>
    intro s n M V R W hk hn
    obtain ⟨n, rfl⟩ : ∃ n', n = n' + 1 := ⟨n - 1, by omega⟩
    have h6 := W.ns
    refine ⟨V, ?_, R⟩
    simp (disch := omega) only [D_M_mark_2, R.r_mC, q_bd, nI_lep, show M.1.1.2.1 2 ≤ s by omega, if_true]
  | succ d ih =>
    intro s n M V R W hk hn
    obtain ⟨n, rfl⟩ : ∃ n', n = n' + 1 := ⟨n - 1, by omega⟩
    have h6 := W.ns
    have h9 := W.nr s
    have h3 := W.nc s
    have hs : s < 16 := by omega
    have hnk : ¬ M.1.1.2.1 2 ≤ s := by omega
    have fin : ∀ V1, RZ b A (m_m1 M s) o L V1 → ∃ V', D_M_mark_2 L n (b + 5) (nI (s + 1)) V1 = some ((), V') ∧ RZ b A (m_mk s (d + 1) M) o L V' := fun V1 R1 => ih (s + 1) n _ V1 R1 (W.of rfl rfl rfl) (show s + 1 + d = M.1.1.2.1 2 by omega) (by omega)
    simp (disch := omega) only [D_M_mark_2, R.r_mC, R.r_mP, q_bd, nI_lep, hnk, if_false, R.r_mZ, R.r_mN, bI_0, nI_e0]
    by_cases ht : M.1.2.1 21 s = true
    · simp only [ht, Bool.true_eq_false, if_false]
      have go : ∀ c, c = (decide (M.2.1.2.1 12 s = 0) || M.1.2.1 7 s) → ∃ V0, g_wa L V 102 (b + 3 + 22) (nI s) (tI (bI c)) = some V0 ∧ ∃ V', D_M_mark_50 L (D_M_mark_2 L n) 1000 (b + 5) (nI s) (0 : Int32) V0 = some ((), V') ∧ RZ b A (m_mk s (d + 1) M) o L V' := by
        intro c hc
        obtain ⟨V0, e0, R0⟩ := R.w_mZ (q := 22) (s := s) (by omega) c
        obtain ⟨V1, e1, R1⟩ := e_mk50 (D_M_mark_2 L n) hs (M.2.1.2.1 9 s) 0 1000 _ V0 R0 (W.of rfl rfl rfl) ht (by show 0 + M.2.1.2.1 9 s = M.2.1.2.1 9 s; omega) (by omega)
        have R1' : RZ b A (m_m1 M s) o L V1 := by
          refine R1.ext ?_
          intro p _
          have ep : z_any (m_mp { M with fst.snd.fst := up2 M.1.2.1 22 s c } s) 0 (M.2.1.2.1 9 s) = z_any (m_mp M s) 0 (M.2.1.2.1 9 s) := by
            refine z_any_congr _ _ fun i h1 h2 => ?_
            have hv := W.rv s i hs (by omega)
            have ea : m_as { M with fst.snd.fst := up2 M.1.2.1 22 s c } s 0 i = m_as M s 0 i := rfl
            simp only [m_mp, ea]
            by_cases g : M.2.1.2.2 11 s i = 2
            · simp only [g, if_true]
            · simp only [g, if_false, up2, show ¬ M.2.1.2.2 10 s i = s by omega, and_false]
          cases p using zP_cas <;> simp only [zc, ep, m_m1, m_mv1, ht, Bool.true_and]
          · rename_i q u _
            congr 2
            by_cases g : q = 22 ∧ u = s
            · obtain ⟨rfl, rfl⟩ := g
              simp [up2, hc]
            · simp only [up2, g, if_false]
          · rename_i i _
            simp [up2, hc]
        obtain ⟨V2, e2, R2⟩ := fin V1 R1'
        refine ⟨V0, e0, V2, ?_, R2⟩
        rw [← e2]
        exact e1
      by_cases g1 : M.2.1.2.1 12 s = 0
      · obtain ⟨V0, e0, V2, e2, R2⟩ := go true (by simp [g1])
        rw [bI_t] at e0
        refine ⟨V2, ?_, R2⟩
        simp only [g1, if_true, D_M_mark_42, q_bd, e0]
        exact e2
      · by_cases g2 : M.1.2.1 7 s = true
        · obtain ⟨V0, e0, V2, e2, R2⟩ := go true (by simp [g2])
          rw [bI_t] at e0
          refine ⟨V2, ?_, R2⟩
          simp only [g1, g2, if_false, Bool.true_eq_false, D_M_mark_42, q_bd, e0]
          exact e2
        · simp only [Bool.not_eq_true] at g2
          obtain ⟨V0, e0, V2, e2, R2⟩ := go false (by simp [g1, g2])
          rw [bI_f] at e0
          refine ⟨V2, ?_, R2⟩
          simp only [g1, g2, if_false, if_true, q_bd, e0]
          exact e2
    · simp only [Bool.not_eq_true] at ht
      simp only [ht, if_true]
      obtain ⟨V0, e0, R0⟩ := R.w_mZ (q := 22) (s := s) (by omega) false
      rw [bI_f] at e0
      obtain ⟨V1, e1, R1⟩ := e_mk136 (D_M_mark_2 L n) hs R0
      have R1' : RZ b A (m_m1 M s) o L V1 := by
        refine R1.ext ?_
        intro p _
        cases p using zP_cas <;> simp [zc, m_m1, m_mv1, ht, up2]
      obtain ⟨V2, e2, R2⟩ := fin V1 R1'
      refine ⟨V2, ?_, R2⟩
      rw [← e2, ← e1]
      have hz : g_aI L V0 102 (b + 3 + 21) (nI s) = some 0 := by
        have := R0.r_mZ (q := 21) (s := s) (by omega)
        rw [this]
        show some (bI (M.1.2.1 21 s)) = some 0
        rw [ht]; rfl
      simp only [e0, q_bd]
      rw [show (1000 : Nat) = 999 + 1 from rfl, D_M_mark_50]
      simp only [q_bd, R0.r_mP (j := 9) (by omega), R0.r_mP (j := 21) (by omega), R0.r_mN (q := 9) (s := s) (by omega), hz, if_true, ite_self]
theorem e_mark {M : vM} {V : gV} (R : RZ b A M o L V) (W : WM M) : ∃ V', D_M_mark (b + 5) L V = some ((), V') ∧ RZ b A (m_mk 0 (M.1.1.2.1 2) M) o L V' := by
  have h6 := W.ns
  exact e_mk2 (M.1.1.2.1 2) 0 1000 M V R W (by omega) (by omega)
theorem m_cm_same (M : vM) (s : Nat) (had : Bool) (f y : Int64) (dn : Bool) : (m_cm M s had f y dn).1.1.2.1 = M.1.1.2.1 ∧ (m_cm M s had f y dn).2.1.2.1 = M.2.1.2.1 ∧ (m_cm M s had f y dn).2.1.2.2 = M.2.1.2.2 := by
  unfold m_cm
  split <;> exact ⟨rfl, rfl, rfl⟩
theorem m_r1_same (M : vM) (s : Nat) : (m_rM M s).1.1.2.1 = M.1.1.2.1 ∧ (m_rM M s).2.1.2.1 = up2 M.2.1.2.1 12 s (m_wc (m_r1 M s) s) ∧ (m_rM M s).2.1.2.2 = M.2.1.2.2 := by
  obtain ⟨a1, a2, a3, a4, a5, a6, a7, a8, a9⟩ := m_wm_same (m_r1 M s) s
  exact ⟨a9, a1, a2⟩
theorem m_go_same (M : vM) (s : Nat) : (m_go M s).2.1.1.2.1 = M.1.1.2.1 ∧ (m_go M s).2.2.1.2.2 = M.2.1.2.2 ∧ (m_go M s).2.2.1.2.1 9 = M.2.1.2.1 9 := by
  unfold m_go
  split
  · exact ⟨rfl, rfl, rfl⟩
  · cases m_sl M s with
    | some k =>
      obtain ⟨a1, a2, a3, a4, a5, a6, a7, a8, a9⟩ := m_br_same M s k
      have e1 : (m_bM M s k).1.1.2.1 = M.1.1.2.1 := a9
      have e2 : (m_bM M s k).2.1.2.2 = M.2.1.2.2 := a2
      have e3 : (m_bM M s k).2.1.2.1 = M.2.1.2.1 := a1
      simp only [m_gr]
      split
      · exact ⟨e1, e2, by rw [e3]⟩
      · obtain ⟨c1, c2, c3⟩ := m_cm_same (m_bM M s k) s (m_ho M s) (m_of M s 0) (m_of M s 1) false
        exact ⟨c1.trans e1, c3.trans e2, by rw [c2, e3]⟩
    | none =>
      obtain ⟨c1, c2, c3⟩ := m_cm_same (m_rM M s) s (m_ho M s) (m_of M s 0) (m_of M s 1) true
      obtain ⟨d1, d2, d3⟩ := m_r1_same M s
      exact ⟨c1.trans d1, c3.trans d3, by show (m_cm (m_rM M s) s (m_ho M s) (m_of M s 0) (m_of M s 1) true).2.1.2.1 9 = _; rw [c2, d2]; rfl⟩
theorem WM.go {M : vM} (W : WM M) (s : Nat) : WM (m_go M s).2 := by
  unfold m_go
  split
  · exact W.of rfl rfl rfl
  · cases m_sl M s with
    | some k =>
      obtain ⟨a1, a2, a3, a4, a5, a6, a7, a8, a9⟩ := m_br_same M s k
      have e1 : WM (m_bM M s k) := W.of a9 a1 a2
      simp only [m_gr]
      split
      · exact e1
      · obtain ⟨c1, c2, c3⟩ := m_cm_same (m_bM M s k) s (m_ho M s) (m_of M s 0) (m_of M s 1) false
        exact e1.of c1 c2 c3
    | none =>
      obtain ⟨c1, c2, c3⟩ := m_cm_same (m_rM M s) s (m_ho M s) (m_of M s 0) (m_of M s 1) true
      have W1 : WM (m_r1 M s) := W.of rfl rfl rfl
      have W2 : WM (m_rM M s) := (W1.wk s).of rfl rfl rfl
      exact W2.of c1 c2 c3
theorem e_bd66 : ∀ (d s n : Nat) (a : Int32) (M : vM) (V : gV), RZ b A M o L V → WM M → s + d = M.1.1.2.1 2 → d < n → ∃ V', D_M_build_66 L n (b + 5) a (nI s) V = some ((m_bd s d a M).1, V') ∧ RZ b A (m_bd s d a M).2 o L V' := by
  intro d
  induction d with
  | zero =>
    intro s n a M V R W hk hn
    obtain ⟨n, rfl⟩ : ∃ n', n = n' + 1 := ⟨n - 1, by omega⟩
    have h6 := W.ns
    refine ⟨V, ?_, R⟩
    simp (disch := omega) only [D_M_build_66, R.r_mC, q_bd, nI_lep, show M.1.1.2.1 2 ≤ s by omega, if_true, m_bd]
  | succ d ih =>
    intro s n a M V R W hk hn
    obtain ⟨n, rfl⟩ : ∃ n', n = n' + 1 := ⟨n - 1, by omega⟩
    have h6 := W.ns
    have hnk : ¬ M.1.1.2.1 2 ≤ s := by omega
    simp (disch := omega) only [D_M_build_66, R.r_mC, R.r_mP, q_bd, q_b2, nI_lep, hnk, if_false, R.r_mZ, bI_0, nI_1, R.z_4, i32_a0, m_bd]
    by_cases ht : M.1.2.1 21 s = true
    · obtain ⟨V1, e1, R1⟩ := e_go R W (s := s) (by omega)
      obtain ⟨V2, e2, R2⟩ := ih (s + 1) n (a + bI (m_go M s).1) _ V1 R1 (W.go s) (by rw [(m_go_same M s).1]; omega) (by omega)
      refine ⟨V2, ?_, ?_⟩
      · simp only [ht, Bool.true_eq_false, if_false, if_true, e1, q_b2, e2]
      · simp only [ht, if_true]; exact R2
    · obtain ⟨V2, e2, R2⟩ := ih (s + 1) n a M V R W (by omega) (by omega)
      simp only [Bool.not_eq_true] at ht
      refine ⟨V2, ?_, ?_⟩
      · simp only [ht, Bool.false_eq_true, if_false, if_true, e2]
      · simp only [ht, Bool.false_eq_true, if_false]; exact R2
theorem m_tk_same (x : Int32) : ∀ (s : Nat) (M : vM), (m_tk x s M).1.1.2.1 = M.1.1.2.1 ∧ (m_tk x s M).2.1.2.1 = M.2.1.2.1 ∧ (m_tk x s M).2.1.2.2 = M.2.1.2.2
  | 0, M => ⟨rfl, rfl, rfl⟩
  | s + 1, M => m_tk_same x s (m_t1 x M s)
theorem m_mk_same : ∀ (d s : Nat) (M : vM), (m_mk s d M).1.1.2.1 = M.1.1.2.1 ∧ (m_mk s d M).2.1.2.1 = M.2.1.2.1 ∧ (m_mk s d M).2.1.2.2 = M.2.1.2.2
  | 0, s, M => ⟨rfl, rfl, rfl⟩
  | d + 1, s, M => m_mk_same d (s + 1) (m_m1 M s)
theorem nI_5le {a : Nat} (h : a < 2 ^ 31) : ((5 : Int32) ≤ nI a) = (5 ≤ a) := propext (nI_leI (a := 5) (by decide) h)
theorem nI_16le {a : Nat} (h : a < 2 ^ 31) : ((16 : Int32) ≤ nI a) = (16 ≤ a) := propext (nI_leI (a := 16) (by decide) h)
theorem e_bd27 (x : Int32) : ∀ (d k n : Nat) (M : vM) (V : gV), RZ b A M o L V → k + d = 16 → d < n → ∃ V', D_M_build_27 L n (b + 5) x (nI k) V = (g_b2 (D_M_take (b + 5) x L V') fun _ V2 => g_b2 (D_M_mark (b + 5) L V2) fun _ V4 => D_M_build_66 L 1000 (b + 5) (0 : Int32) (0 : Int32) V4) ∧ RZ b A { M with fst.snd.snd.fst := fun q s => if q = 17 ∧ k ≤ s then 0 else if q = 18 ∧ k ≤ s then -1 else M.1.2.2.1 q s } o L V' := by
  intro d
  induction d with
  | zero =>
    intro k n M V R hk hn
    obtain rfl : k = 16 := by omega
    obtain ⟨n, rfl⟩ : ∃ n', n = n' + 1 := ⟨n - 1, by omega⟩
    refine ⟨V, ?_, R.ext ?_⟩
    · simp (disch := omega) only [D_M_build_27, nI_16le, Nat.le_refl, if_true, q_bd, R.z_4]
    · intro p hp
      cases p using zP_cas <;> simp only [zc]
      simp only [zv] at hp
      rw [if_neg (by omega), if_neg (by omega)]
  | succ d ih =>
    intro k n M V R hk hn
    obtain ⟨n, rfl⟩ : ∃ n', n = n' + 1 := ⟨n - 1, by omega⟩
    obtain ⟨V1, e1, R1⟩ := R.w_mI (q := 17) (s := k) (by omega) 0
    obtain ⟨V2, e2, R2⟩ := R1.w_mI (q := 18) (s := k) (by omega) (-1)
    obtain ⟨V3, e3, R3⟩ := ih (k + 1) n _ V2 R2 (by omega) (by omega)
    refine ⟨V3, ?_, R3.ext ?_⟩
    · rw [← e3]
      simp (disch := omega) only [D_M_build_27, nI_16le, show ¬ 16 ≤ k by omega, if_false, R.r_mP, R1.r_mP, q_bd, e1, e2, nI_1]
    · intro p _
      cases p using zP_cas <;> simp only [zc]
      rename_i q u _
      congr 1
      simp only [up2]
      by_cases g1 : q = 17
      · subst g1
        by_cases h1 : k + 1 ≤ u
        · simp [h1, show k ≤ u by omega]
        · by_cases h2 : u = k
          · subst h2; simp
          · simp [h1, h2, show ¬ k ≤ u by omega]
      · by_cases g2 : q = 18
        · subst g2
          by_cases h1 : k + 1 ≤ u
          · simp [h1, show k ≤ u by omega]
          · by_cases h2 : u = k
            · subst h2; simp
            · simp [h1, h2, show ¬ k ≤ u by omega]
        · simp [g1, g2]
theorem e_bd7 (x : Int32) : ∀ (d k n : Nat) (M : vM) (V : gV), RZ b A M o L V → k + d = 5 → d < n → ∃ V', D_M_build_7 L n (b + 5) x (nI k) V = D_M_build_27 L 1000 (b + 5) x (0 : Int32) V' ∧ RZ b A { M with fst.snd.snd.snd := fun i => if k ≤ i then 0 else M.1.2.2.2 i } o L V' := by
  intro d
  induction d with
  | zero =>
    intro k n M V R hk hn
    obtain rfl : k = 5 := by omega
    obtain ⟨n, rfl⟩ : ∃ n', n = n' + 1 := ⟨n - 1, by omega⟩
    refine ⟨V, ?_, R.ext ?_⟩
    · simp (disch := omega) only [D_M_build_7, nI_5le, Nat.le_refl, if_true]
    · intro p hp
      cases p using zP_cas <;> simp only [zc]
      simp only [zv] at hp
      rw [if_neg (by omega)]
  | succ d ih =>
    intro k n M V R hk hn
    obtain ⟨n, rfl⟩ : ∃ n', n = n' + 1 := ⟨n - 1, by omega⟩
    obtain ⟨V1, e1, R1⟩ := R.w_mc (i := k) (by omega) 0
    obtain ⟨V3, e3, R3⟩ := ih (k + 1) n _ V1 R1 (by omega) (by omega)
    refine ⟨V3, ?_, R3.ext ?_⟩
    · rw [← e3]
      simp (disch := omega) only [D_M_build_7, nI_5le, show ¬ 5 ≤ k by omega, if_false, R.r_mP, q_bd, e1, nI_1]
    · intro p _
      cases p using zP_cas <;> simp only [zc]
      rename_i u _
      congr 1
      simp only [up1]
      by_cases h1 : k + 1 ≤ u
      · simp [h1, show k ≤ u by omega]
      · by_cases h2 : u = k
        · subst h2; simp
        · simp [h1, h2, show ¬ k ≤ u by omega]
theorem e_build0 {M : vM} {V : gV} (R : RZ b A M o L V) (x : Int32) : ∃ V', D_M_build (b + 5) x L V = (g_b2 (D_M_take (b + 5) x L V') fun _ V2 => g_b2 (D_M_mark (b + 5) L V2) fun _ V4 => D_M_build_66 L 1000 (b + 5) (0 : Int32) (0 : Int32) V4) ∧ RZ b A (m_z0 M) o L V' := by
  obtain ⟨V1, e1, R1⟩ := R.w_mo (j := 0) (by omega) 0
  obtain ⟨V2, e2, R2⟩ := e_bd7 x 5 0 1000 _ V1 R1 (by omega) (by omega)
  obtain ⟨V3, e3, R3⟩ := e_bd27 x 16 0 1000 _ V2 R2 (by omega) (by omega)
  refine ⟨V3, ?_, R3.ext ?_⟩
  · unfold D_M_build
    rw [e1, q_bd]
    exact e2.trans e3
  · intro p _
    cases p using zP_cas <;> simp only [zc, m_z0, Nat.zero_le, and_true, if_true]
theorem e_build {M : vM} {V : gV} (R : RZ b A M o L V) (W : WM M) (x : Int32) : ∃ V', D_M_build (b + 5) x L V = some ((m_bd 0 (M.1.1.2.1 2) 0 (m_b2 x M)).1, V') ∧ RZ b A (m_bd 0 (M.1.1.2.1 2) 0 (m_b2 x M)).2 o L V' := by
  have h6 := W.ns
  obtain ⟨V3, e3, R3'⟩ := e_build0 R x
  have W3 : WM (m_z0 M) := W.of rfl rfl rfl
  obtain ⟨V4, e4, R4⟩ := e_take R3' W3 x
  have R4' : RZ b A (m_tk x (M.1.1.2.1 2) (m_z0 M)) o L V4 := R4
  obtain ⟨t1, t2, t3⟩ := m_tk_same x (M.1.1.2.1 2) (m_z0 M)
  have W4 : WM (m_tk x (M.1.1.2.1 2) (m_z0 M)) := W3.of t1 t2 t3
  obtain ⟨V5, e5, R5⟩ := e_mark R4' W4
  have t4 : (m_tk x (M.1.1.2.1 2) (m_z0 M)).1.1.2.1 2 = M.1.1.2.1 2 := by rw [t1]; rfl
  have R5' : RZ b A (m_b2 x M) o L V5 := by
    unfold m_b2
    rw [t4] at R5
    exact R5
  obtain ⟨k1, k2, k3⟩ := m_mk_same (M.1.1.2.1 2) 0 (m_tk x (M.1.1.2.1 2) (m_z0 M))
  have W5 : WM (m_b2 x M) := W4.of k1 k2 k3
  have t5 : (m_b2 x M).1.1.2.1 2 = M.1.1.2.1 2 := by
    show (m_mk 0 (M.1.1.2.1 2) (m_tk x (M.1.1.2.1 2) (m_z0 M))).1.1.2.1 2 = _
    rw [k1, t4]
  obtain ⟨V6, e6, R6⟩ := e_bd66 (M.1.1.2.1 2) 0 1000 0 (m_b2 x M) V5 R5' W5 (by rw [t5]; omega) (by omega)
  refine ⟨V6, ?_, R6⟩
  rw [e3, e4, q_b2, e5, q_b2]
  exact e6
end
