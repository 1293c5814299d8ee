section
variable {b : Nat} {A : vA} {o : Int64} {L : gL}
theorem m_mt_lt {M : vM} {s k : Nat} (h : m_mt M s = some k) : k < M.2.1.2.1 12 s := by
  have := (z_fst_lt _ _ _ _ h).2.1
  omega
theorem e_wk63 {M : vM} {V : gV} (R : RZ b A M o L V) (W : WM M) {s p c : Nat} (hs : s < 16) (hp : p < 4) (hc : c ≤ 3) {x0 x1 : Int32} (hx : x1 + x0 = nI c) : ∃ V', D_M_work_63 L (b + 5) (nI s) (nI p) x0 x1 (nI s) (b + 3 + 12) V = some ((), V') ∧ RZ b A { m_mv s p { M with snd.fst.snd.fst := up2 M.2.1.2.1 12 s c } with
    snd.snd.snd.fst := fun u r i => if u = s ∧ r = 0 ∧ i < M.2.1.2.1 9 s then m_va (m_mv s p { M with snd.fst.snd.fst := up2 M.2.1.2.1 12 s c }) s i else (m_mv s p { M with snd.fst.snd.fst := up2 M.2.1.2.1 12 s c }).2.2.2.1 u r i
    snd.snd.snd.snd := fun u r i => if u = s ∧ r = 0 ∧ i < M.2.1.2.1 9 s then m_th M s i else (m_mv s p { M with snd.fst.snd.fst := up2 M.2.1.2.1 12 s c }).2.2.2.2 u r i
    snd.snd.fst.snd := up2 (m_mv s p { M with snd.fst.snd.fst := up2 M.2.1.2.1 12 s c }).2.2.1.2 s 0 (z_sum (m_va (m_mv s p { M with snd.fst.snd.fst := up2 M.2.1.2.1 12 s c }) s) 0 (M.2.1.2.1 9 s) 17)
    snd.snd.fst.fst := up2 (m_mv s p { M with snd.fst.snd.fst := up2 M.2.1.2.1 12 s c }).2.2.1.1 s 0 (m_fl (m_th M s) (M.2.1.2.1 9 s) (M.1.1.2.2 5 s) (z_sum (m_va (m_mv s p { M with snd.fst.snd.fst := up2 M.2.1.2.1 12 s c }) s) 0 (M.2.1.2.1 9 s) 17)) } o L V' := by
  have h6 := W.nr s
  obtain ⟨V1, e1, R1⟩ := R.w_mN (q := 12) (s := s) (by omega) c
  have W1 : WM { M with snd.fst.snd.fst := up2 M.2.1.2.1 12 s c } := ⟨W.nf, W.ns, fun u => W.nr u, fun u => by
    show up2 M.2.1.2.1 12 s c 12 u ≤ 3
    unfold up2
    split
    · exact hc
    · exact W.nc u, W.rv⟩
  obtain ⟨V2, e2, R2⟩ := e_moveBack (s := s) (p := p) hs hp R1
  generalize hM2 : m_mv s p { M with snd.fst.snd.fst := up2 M.2.1.2.1 12 s c } = M2 at R2 ⊢
  obtain ⟨a1, a2, a3, a4, a5, a6, a7, a8, a9⟩ := m_mv_same s p { M with snd.fst.snd.fst := up2 M.2.1.2.1 12 s c }
  rw [hM2] at a1 a2 a3 a4 a5 a6 a7 a8 a9
  have W2 : WM M2 := ⟨by rw [a9]; exact W1.nf, by rw [a9]; exact W1.ns, by rw [a1]; exact W1.nr, by rw [a1]; exact W1.nc, by rw [a1, a2]; exact W1.rv⟩
  have n9 : M2.2.1.2.1 9 s = M.2.1.2.1 9 s := by rw [a1]; rfl
  have tE : m_th M2 s = m_th M s := by funext i; simp only [m_th, a2, a4]
  have jE : M2.1.1.2.2 5 s = M.1.1.2.2 5 s := by rw [a3]
  obtain ⟨V3, e3, R3⟩ := e_wk82 (s := s) hs (M.2.1.2.1 9 s) 0 1000 17 none M2 V2 R2 W2 (by omega) (by omega) (fun _ q => by cases q)
  refine ⟨V3, ?_, R3.ext ?_⟩
  · simp (disch := omega) only [D_M_work_63, hx, e1, q_bd, q_b2, R1.z_4, e2]
    exact e3
  · intro q _
    cases q using zP_cas <;> simp only [zc, n9, tE, jE, Nat.zero_le, true_and, m_fl, z_or]
theorem e_work {M : vM} {V : gV} (R : RZ b A M o L V) (W : WM M) {s : Nat} (hs : s < 16) : ∃ V', D_M_work (b + 5) (nI s) L V = some ((), V') ∧ RZ b A (m_wk M s) o L V' := by
  have h3 := W.nc s
  cases hm : m_mt M s with
  | some k =>
    have hk := m_mt_lt hm
    obtain ⟨V1, e1, R1⟩ := e_wk63 R W (s := s) (p := k) (c := M.2.1.2.1 12 s) hs (by omega) h3 (x0 := 0) (x1 := nI (M.2.1.2.1 12 s)) (nI_a0 _)
    refine ⟨V1, ?_, ?_⟩
    · simp (disch := omega) only [D_M_work, D_M_work_35, D_M_work_62, q_bd, q_b2, R.z_4, e_matching R W, hm, oI, z_nm1, if_false, R.r_mP, R.r_mN, e1]
    · simp only [m_wk, m_wm, m_wl, m_wc, hm]; exact R1
  | none =>
    by_cases g : 3 ≤ M.2.1.2.1 12 s
    · obtain ⟨V1, e1, R1⟩ := e_wk63 R W (s := s) (p := 2) (c := M.2.1.2.1 12 s) hs (by omega) h3 (x0 := 0) (x1 := nI (M.2.1.2.1 12 s)) (nI_a0 _)
      refine ⟨V1, ?_, ?_⟩
      · rw [show nI 2 = (2 : Int32) from rfl] at e1
        simp (disch := omega) only [D_M_work, D_M_work_35, D_M_work_62, q_bd, q_b2, R.z_4, e_matching R W, hm, oI, if_true, R.r_mP, R.r_mN, nI_3le, g, e1]
      · simp only [m_wk, m_wm, m_wl, m_wc, hm, g, if_true]; exact R1
    · obtain ⟨V1, e1, R1⟩ := e_wk63 R W (s := s) (p := M.2.1.2.1 12 s) (c := M.2.1.2.1 12 s + 1) hs (by omega) (by omega) (x0 := 1) (x1 := nI (M.2.1.2.1 12 s)) (nI_1 _)
      refine ⟨V1, ?_, ?_⟩
      · simp (disch := omega) only [D_M_work, D_M_work_35, D_M_work_62, q_bd, q_b2, R.z_4, e_matching R W, hm, oI, if_true, if_false, R.r_mP, R.r_mN, nI_3le, g, e1]
      · simp only [m_wk, m_wm, m_wl, m_wc, hm, g, if_false]; exact R1
theorem i32_a0 (x : Int32) : x + 0 = x := by simp
theorem e_c90 {M : vM} {V : gV} (R : RZ b A M o L V) (dn c h : Bool) : ∃ V', D_M_compare_90 L (b + 5) (bI dn) (bI c) (bI h) (M.1.2.2.2 2) 2 (b + 3 + 19) V = some ((), V') ∧ RZ b A { M with fst.snd.snd.snd := up1 M.1.2.2.2 2 (M.1.2.2.2 2 + bI h), fst.fst.fst := up1 M.1.1.1 23 (M.1.1.1 23 + bI (c && dn)) } o L V' := by
  obtain ⟨V1, e1, R1⟩ := R.w_mc (i := 2) (by omega) (M.1.2.2.2 2 + bI h)
  rw [show nI 2 = (2 : Int32) from rfl] at e1
  obtain ⟨V2, e2, R2⟩ := R1.w_mo (j := 23) (by omega) (M.1.1.1 23 + bI (c && dn))
  refine ⟨V2, ?_, R2⟩
  simp (disch := omega) only [D_M_compare_90, e1, q_bd, R1.r_mo, bI_0]
  cases c
  · simp only [Bool.false_and, bI_f] at e2
    simp only [if_true, e2, q_bd]
  · cases dn
    · simp only [Bool.true_and, bI_f] at e2
      simp only [if_true, if_false, Bool.true_eq_false, e2, q_bd]
    · simp only [Bool.true_and, bI_t] at e2
      simp only [if_false, Bool.true_eq_false, e2, q_bd]
theorem e_c41 {M : vM} {V : gV} (R : RZ b A M o L V) {s : Nat} (hs : s < 16) (dn c : Bool) (f : Int64) : ∃ V', D_M_compare_41 L (b + 5) (nI s) f (bI dn) (bI c) V = some ((), V') ∧ RZ b A { M with fst.snd.snd.snd := up1 (up1 M.1.2.2.2 1 (M.1.2.2.2 1 + bI c)) 2 (M.1.2.2.2 2 + bI (!c && decide (m_pt M s 0 = f))), fst.fst.fst := up1 M.1.1.1 23 (M.1.1.1 23 + bI (c && dn)) } o L V' := by
  obtain ⟨V1, e1, R1⟩ := R.w_mc (i := 1) (by omega) (M.1.2.2.2 1 + bI c)
  rw [show nI 1 = (1 : Int32) from rfl] at e1
  obtain ⟨V2, e2, R2⟩ := e_c90 R1 dn c (!c && decide (m_pt M s 0 = f))
  have hp : D_M_partOf (b + 5) (nI s) (0 : Int32) L V1 = some (m_pt M s 0, V1) := e_partOf0 R1 hs
  have hc2 : g_aI L V1 100 (b + 3 + 19) (2 : Int32) = some (M.1.2.2.2 2) := R1.r_c.2.2.1
  refine ⟨V2, ?_, R2⟩
  replace e2 : D_M_compare_90 L (b + 5) (bI dn) (bI c) (bI (!c && decide (m_pt M s 0 = f))) (M.1.2.2.2 2) 2 (b + 3 + 19) V1 = some ((), V2) := e2
  simp (disch := omega) only [D_M_compare_41, R.r_mP, q_bd, R.r_c.2.1, bI_0]
  cases c
  · simp only [bI_f, Bool.not_false, Bool.true_and] at e1 e2 ⊢
    simp (disch := omega) only [if_true, D_M_compare_60, D_M_compare_89, e1, q_bd, q_b2, R1.r_mP, hc2, R1.z_4, hp, lg_cmp_eq]
    by_cases g : m_pt M s 0 = f
    · simp only [g, decide_true, bI_t, if_true] at e2 ⊢; exact e2
    · simp only [g, decide_false, bI_f, if_false] at e2 ⊢; exact e2
  · simp only [bI_t, Bool.not_true, Bool.false_and, bI_f] at e1 e2 ⊢
    simp (disch := omega) only [if_false, Bool.true_eq_false, D_M_compare_60, D_M_compare_89, e1, q_bd, q_b2, R1.r_mP, hc2, show ((1 : Int32) = 0) = False from eq_false (by decide)]
    exact e2
theorem e_compare {M : vM} {V : gV} (R : RZ b A M o L V) (W : WM M) {s : Nat} (hs : s < 16) (had dn : Bool) (f y : Int64) : ∃ V', D_M_compare (b + 5) (nI s) (bI had) f y (bI dn) L V = some ((), V') ∧ RZ b A (m_cm M s had f y dn) o L V' := by
  by_cases g : (had && m_ho M s) = true
  · simp only [Bool.and_eq_true] at g
    obtain ⟨V1, e1, R1⟩ := e_c41 R hs dn (decide (m_pt M s 1 = y ∧ m_pt M s 0 = f)) f
    refine ⟨V1, ?_, ?_⟩
    · simp (disch := omega) only [D_M_compare, D_M_compare_40, g, bI_0, Bool.true_eq_false, if_false, q_bd, q_b2, R.z_4, e_hasOutput R W, e_partOf1 R, e_partOf0 R, lg_cmp_eq]
      by_cases g1 : m_pt M s 1 = y
      · by_cases g2 : m_pt M s 0 = f
        · simp only [g1, g2, and_self, decide_true, bI_t] at e1
          simp only [g1, g2, if_true]; exact e1
        · simp only [g1, g2, and_false, decide_false, bI_f] at e1
          simp only [g1, g2, if_true, if_false]; exact e1
      · simp only [g1, false_and, decide_false, bI_f] at e1
        simp only [g1, if_false]; exact e1
    · simp only [m_cm, g, Bool.and_self, if_true]; exact R1
  · refine ⟨V, ?_, ?_⟩
    · simp (disch := omega) only [D_M_compare, bI_0, q_bd, q_b2, R.z_4, e_hasOutput R W]
      cases had
      · simp
      · simp at g; simp [g]
    · simp only [m_cm, g, if_false]; exact R
end
