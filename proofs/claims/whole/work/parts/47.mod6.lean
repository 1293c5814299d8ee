theorem WM.of {M M' : vM} (W : WM M) (h1 : M'.1.1.2.1 = M.1.1.2.1) (h2 : M'.2.1.2.1 = M.2.1.2.1) (h3 : M'.2.1.2.2 = M.2.1.2.2) : WM M' := ⟨by rw [h1]; exact W.nf, by rw [h1]; exact W.ns, by rw [h2]; exact W.nr, by rw [h2]; exact W.nc, by rw [h2, h3]; exact W.rv⟩
theorem m_br_same (M : vM) (s k : Nat) : (m_br M s k).2.1.2.1 = M.2.1.2.1 ∧ (m_br M s k).2.1.2.2 = M.2.1.2.2 ∧ (m_br M s k).1.1.2.2 = M.1.1.2.2 ∧ (m_br M s k).1.2.1 = M.1.2.1 ∧ (m_br M s k).1.2.2.1 = M.1.2.2.1 ∧ (m_br M s k).1.2.2.2 = M.1.2.2.2 ∧ (m_br M s k).2.1.1 = M.2.1.1 ∧ (m_br M s k).1.1.1 = M.1.1.1 ∧ (m_br M s k).1.1.2.1 = M.1.1.2.1 := m_mv_same s k (m_cp M s k 3)
theorem m_wm_same (M : vM) (s : Nat) : (m_wm M s).2.1.2.1 = up2 M.2.1.2.1 12 s (m_wc M s) ∧ (m_wm M s).2.1.2.2 = M.2.1.2.2 ∧ (m_wm M s).1.1.2.2 = M.1.1.2.2 ∧ (m_wm M s).1.2.1 = M.1.2.1 ∧ (m_wm M s).1.2.2.1 = M.1.2.2.1 ∧ (m_wm M s).1.2.2.2 = M.1.2.2.2 ∧ (m_wm M s).2.1.1 = M.2.1.1 ∧ (m_wm M s).1.1.1 = M.1.1.1 ∧ (m_wm M s).1.1.2.1 = M.1.1.2.1 := m_mv_same s (m_wl M s) { M with snd.fst.snd.fst := up2 M.2.1.2.1 12 s (m_wc M s) }
theorem m_wc_le {M : vM} (W : WM M) (s : Nat) : m_wc M s ≤ 3 := by
  have := W.nc s
  unfold m_wc
  split
  · exact this
  · split <;> omega
theorem WM.wk {M : vM} (W : WM M) (s : Nat) : WM (m_wk M s) := by
  obtain ⟨a1, a2, a3, a4, a5, a6, a7, a8, a9⟩ := m_wm_same M s
  refine ⟨?_, ?_, fun u => ?_, fun u => ?_, fun u i hu hi => ?_⟩
  · show (m_wm M s).1.1.2.1 1 ≤ 16
    rw [a9]; exact W.nf
  · show (m_wm M s).1.1.2.1 2 ≤ 16
    rw [a9]; exact W.ns
  · show (m_wm M s).2.1.2.1 9 u ≤ 6
    rw [a1]; exact W.nr u
  · show (m_wm M s).2.1.2.1 12 u ≤ 3
    rw [a1]; unfold up2
    split
    · exact m_wc_le W s
    · exact W.nc u
  · have hi' : i < (m_wm M s).2.1.2.1 9 u := hi
    rw [a1] at hi'
    show ((m_wm M s).2.1.2.2 11 u i = 2 ∧ (m_wm M s).2.1.2.2 10 u i < 16) ∨ ((m_wm M s).2.1.2.2 11 u i < 2 ∧ (m_wm M s).2.1.2.2 10 u i < u)
    rw [a2]; exact W.rv u i hu hi'
def m_gr (M : vM) (s : Nat) (had : Bool) (f y : Int64) : Option Nat → vM
  | some k => if k = 0 then m_bM M s k else m_cm (m_bM M s k) s had f y false
  | none => m_cm (m_rM M s) s had f y true
def m_sl (M : vM) (s : Nat) : Option Nat := if M.1.2.1 7 s = true then none else m_mt M s
def m_go (M : vM) (s : Nat) : Bool × vM := if m_bl M s = true then (false, { M with fst.snd.snd.fst := up2 M.1.2.2.1 17 s 5, fst.snd.snd.snd := up1 M.1.2.2.2 3 (M.1.2.2.2 3 + 1) }) else ((m_sl M s).isNone, m_gr M s (m_ho M s) (m_of M s 0) (m_of M s 1) (m_sl M s))
section
variable {b : Nat} {A : vA} {o : Int64} {L : gL}
theorem e_go125 {M : vM} {V : gV} (R : RZ b A M o L V) (W : WM M) {s k : Nat} (hs : s < 16) (hk : k < 3) (had : Bool) (f y : Int64) (x : Int32) : ∃ V', D_M_go_125 L (b + 5) (nI s) (bI had) f y (nI k) x (nI s) (some (b + 3 + 17)) V = some (0, V') ∧ RZ b A (if k = 0 then { M with fst.snd.snd.fst := up2 M.1.2.2.1 17 s x, fst.snd.snd.snd := up1 M.1.2.2.2 0 (M.1.2.2.2 0 + bI (M.1.2.1 22 s)) } else m_cm { M with fst.snd.snd.fst := up2 M.1.2.2.1 17 s x, fst.snd.snd.snd := up1 M.1.2.2.2 0 (M.1.2.2.2 0 + bI (M.1.2.1 22 s)) } s had f y false) o L V' := by
  obtain ⟨V1, e1, R1⟩ := R.w_mI (q := 17) (s := s) (by omega) x
  obtain ⟨V2, e2, R2⟩ := R1.w_mc (i := 0) (by omega) (M.1.2.2.2 0 + bI (M.1.2.1 22 s))
  rw [show nI 0 = (0 : Int32) from rfl] at e2
  have hc : g_aI L V1 100 (b + 3 + 19) (0 : Int32) = some (M.1.2.2.2 0) := R1.r_c.1
  have W2 : WM { M with fst.snd.snd.fst := up2 M.1.2.2.1 17 s x, fst.snd.snd.snd := up1 M.1.2.2.2 0 (M.1.2.2.2 0 + bI (M.1.2.1 22 s)) } := W.of rfl rfl rfl
  obtain ⟨V3, e3, R3⟩ := e_compare R2 W2 hs had false f y
  rw [bI_f] at e3
  have key : ∀ u, u = bI (M.1.2.1 22 s) → ∃ V', D_M_go_147 L (b + 5) (nI s) (bI had) f y (nI k) u (M.1.2.2.2 0) 0 (b + 3 + 19) V1 = some (0, V') ∧ RZ b A (if k = 0 then { M with fst.snd.snd.fst := up2 M.1.2.2.1 17 s x, fst.snd.snd.snd := up1 M.1.2.2.2 0 (M.1.2.2.2 0 + bI (M.1.2.1 22 s)) } else m_cm { M with fst.snd.snd.fst := up2 M.1.2.2.1 17 s x, fst.snd.snd.snd := up1 M.1.2.2.2 0 (M.1.2.2.2 0 + bI (M.1.2.1 22 s)) } s had f y false) o L V' := by
    intro u hu
    subst hu
    by_cases h0 : k = 0
    · refine ⟨V2, ?_, by rw [if_pos h0]; exact R2⟩
      simp (disch := omega) only [D_M_go_147, e2, q_bd, nI_le0, show k ≤ 0 by omega, if_true]
    · refine ⟨V3, ?_, by rw [if_neg h0]; exact R3⟩
      simp (disch := omega) only [D_M_go_147, e2, q_bd, q_b2, nI_le0, show ¬ k ≤ 0 by omega, if_false, R2.z_4, e3]
  have z : ∃ u, u = bI (M.1.2.1 22 s) ∧ D_M_go_125 L (b + 5) (nI s) (bI had) f y (nI k) x (nI s) (some (b + 3 + 17)) V = D_M_go_147 L (b + 5) (nI s) (bI had) f y (nI k) u (M.1.2.2.2 0) 0 (b + 3 + 19) V1 := by
    refine ⟨_, rfl, ?_⟩
    simp (disch := omega) only [D_M_go_125, e1, q_bd, R1.r_mP, hc, R1.r_mZ, bI_0]
    by_cases g : M.1.2.1 22 s = true
    · simp [g, bI]
    · simp only [Bool.not_eq_true] at g
      simp [g, bI]
  obtain ⟨u, hu, hz⟩ := z
  rw [hz]
  exact key u hu
theorem e_go82 {M : vM} {V : gV} (R : RZ b A M o L V) (W : WM M) {s : Nat} (hs : s < 16) (had : Bool) (f y : Int64) (sel : Option Nat) (hsel : sel = if M.1.2.1 7 s = true then none else m_mt M s) : ∃ V', D_M_go_82 L (b + 5) (nI s) (bI had) f y (oI sel) V = some (bI (sel.isNone), V') ∧ RZ b A (m_gr M s had f y sel) o L V' := by
  have h3 := W.nc s
  cases sel with
  | some k =>
    have hk : k < M.2.1.2.1 12 s := by
      by_cases hz : M.1.2.1 7 s = true
      · rw [if_pos hz] at hsel; cases hsel
      · rw [if_neg hz] at hsel; exact m_mt_lt hsel.symm
    obtain ⟨V1, e1, R1⟩ := e_bring (s := s) (k := k) hs (by omega) R
    obtain ⟨a1, a2, a3, a4, a5, a6, a7, a8, a9⟩ := m_br_same M s k
    have W1 : WM (m_br M s k) := W.of a9 a1 a2
    obtain ⟨V2, e2, R2⟩ := e_go125 R1 W1 (s := s) (k := k) hs (by omega) had f y (if m_ho (m_br M s k) s = false then 4 else if k = 0 then 1 else 6)
    have eM : m_bM M s k = { m_br M s k with fst.snd.snd.fst := up2 (m_br M s k).1.2.2.1 17 s (if m_ho (m_br M s k) s = false then 4 else if k = 0 then 1 else 6), fst.snd.snd.snd := up1 (m_br M s k).1.2.2.2 0 ((m_br M s k).1.2.2.2 0 + bI ((m_br M s k).1.2.1 22 s)) } := by
      unfold m_bM
      rw [← a4, ← a5, ← a6]
    have R3 : RZ b A (m_gr M s had f y (some k)) o L V2 := by
      simp only [m_gr]
      rw [eM]
      exact R2
    refine ⟨V2, ?_, R3⟩
    simp (disch := omega) only [D_M_go_82, oI, z_nm1, if_false, q_bd, q_b2, R.z_4, e1, R1.r_mP, e_hasOutput R1 W1, bI_0, nI_e0]
    by_cases g : m_ho (m_br M s k) s = true
    · simp only [g, Bool.true_eq_false, if_false] at e2 ⊢
      by_cases h0 : k = 0
      · simp only [h0, if_true] at e2 ⊢; exact e2
      · simp only [h0, if_false] at e2 ⊢; exact e2
    · simp only [Bool.not_eq_true] at g
      simp only [g, if_true] at e2 ⊢; exact e2
  | none =>
    have hm : M.1.2.1 7 s = true ∨ m_mt M s = none := by
      by_cases hz : M.1.2.1 7 s = true
      · exact Or.inl hz
      · rw [if_neg hz] at hsel; exact Or.inr hsel.symm
    have hc4 := m_ca_lt M s
    obtain ⟨V1, e1, R1⟩ := R.w_mI (q := 18) (s := s) (by omega) (nI (m_ca M s))
    obtain ⟨V2, e2, R2⟩ := R1.w_mt (i := m_ca M s) (by omega) (M.2.1.1 (m_ca M s) + 1)
    replace R2 : RZ b A { M with fst.snd.snd.fst := up2 M.1.2.2.1 18 s (nI (m_ca M s)), snd.fst.fst := up1 M.2.1.1 (m_ca M s) (M.2.1.1 (m_ca M s) + 1) } o L V2 := R2
    obtain ⟨V3, e3, R3⟩ := R2.w_mo (j := 24) (by omega) (M.1.1.1 24 + 1)
    replace R3 : RZ b A { M with fst.snd.snd.fst := up2 M.1.2.2.1 18 s (nI (m_ca M s)), snd.fst.fst := up1 M.2.1.1 (m_ca M s) (M.2.1.1 (m_ca M s) + 1), fst.fst.fst := up1 M.1.1.1 24 (M.1.1.1 24 + 1) } o L V3 := R3
    obtain ⟨V4, e4, R4⟩ := R3.w_mZ (q := 7) (s := s) (by omega) false
    replace R4 : RZ b A (m_r1 M s) o L V4 := R4
    have W4 : WM (m_r1 M s) := W.of rfl rfl rfl
    obtain ⟨V5, e5, R5⟩ := e_work (M := m_r1 M s) R4 W4 hs
    have W5 := W4.wk s
    obtain ⟨V6, e6, R6⟩ := R5.w_mI (q := 17) (s := s) (by omega) (if m_ho (m_wk (m_r1 M s) s) s = true then 2 else 3)
    have eI : (m_wk (m_r1 M s) s).1.2.2.1 = (m_r1 M s).1.2.2.1 := (m_wm_same (m_r1 M s) s).2.2.2.2.1
    have R6' : RZ b A (m_rM M s) o L V6 := by
      unfold m_rM
      rw [eI] at R6
      exact R6
    have W6 : WM (m_rM M s) := W5.of rfl rfl rfl
    obtain ⟨V7, e7, R7⟩ := e_compare R6' W6 hs had true f y
    refine ⟨V7, ?_, R7⟩
    rw [bI_f] at e4
    rw [bI_t] at e7
    have r18 : g_aI L V1 100 (b + 3 + 18) (nI s) = some (nI (m_ca M s)) := by
      have := R1.r_mI (q := 18) (s := s) (by omega)
      simpa [up2] using this
    have rt : g_aI L V1 100 (b + 3 + 20) (nI (m_ca M s)) = some (M.2.1.1 (m_ca M s)) := R1.r_mt (by omega)
    have ro : g_rI L V2 4 (b + 5) 24 = some (M.1.1.1 24) := R2.r_mo (by omega)
    simp (disch := omega) only [D_M_go_82, oI, if_true, q_bd, q_b2, R.z_4, R.r_mP, e_causeOf R W hs hm, e1, R1.r_mP, r18, rt, e2, ro, e3, R3.r_mP, e4, R4.z_4, e5, R5.r_mP, e_hasOutput R5 W5, bI_0, Option.isNone_none, bI_t]
    by_cases g : m_ho (m_wk (m_r1 M s) s) s = true
    · simp only [g, if_true] at e6
      simp (disch := omega) only [g, Bool.true_eq_false, if_false, D_M_go_232, q_bd, e6, q_b2, R6.z_4, e7]
    · rw [if_neg g] at e6
      simp only [Bool.not_eq_true] at g
      simp (disch := omega) only [g, if_true, D_M_go_232, q_bd, e6, q_b2, R6.z_4, e7]
theorem e_go {M : vM} {V : gV} (R : RZ b A M o L V) (W : WM M) {s : Nat} (hs : s < 16) : ∃ V', D_M_go (b + 5) (nI s) L V = some (bI (m_go M s).1, V') ∧ RZ b A (m_go M s).2 o L V' := by
  by_cases hb : m_bl M s = true
  · obtain ⟨V1, e1, R1⟩ := R.w_mI (q := 17) (s := s) (by omega) 5
    obtain ⟨V2, e2, R2⟩ := R1.w_mc (i := 3) (by omega) (M.1.2.2.2 3 + 1)
    rw [show nI 3 = (3 : Int32) from rfl] at e2
    have hc : g_aI L V1 100 (b + 3 + 19) (3 : Int32) = some (M.1.2.2.2 3) := R1.r_c.2.2.2.1
    refine ⟨V2, ?_, ?_⟩
    · simp (disch := omega) only [D_M_go, q_bd, q_b2, R.z_4, e_isBlocked R W, hb, bI_0, Bool.true_eq_false, if_false, R.r_mP, e1, R1.r_mP, hc, e2, m_go, if_true, bI_f]
    · simp only [m_go, hb, if_true]; exact R2
  · obtain ⟨V1, e1, R1⟩ := e_go82 R W hs (m_ho M s) (m_of M s 0) (m_of M s 1) (if M.1.2.1 7 s = true then none else m_mt M s) rfl
    refine ⟨V1, ?_, ?_⟩
    · have hb' : m_bl M s = false := by simpa using hb
      have hgo : bI (m_go M s).1 = bI (if M.1.2.1 7 s = true then none else m_mt M s).isNone := by
        rw [m_go, if_neg hb]; rfl
      rw [hgo, ← e1]
      have e62 : ∀ f y : Int64, D_M_go_62 L (b + 5) (nI s) (bI (m_ho M s)) f y V = D_M_go_82 L (b + 5) (nI s) (bI (m_ho M s)) f y (oI (if M.1.2.1 7 s = true then none else m_mt M s)) V := by
        intro f y
        simp (disch := omega) only [D_M_go_62, q_bd, q_b2, R.r_mP, R.r_mZ, bI_0, R.z_4, e_matching R W]
        by_cases hz : M.1.2.1 7 s = true
        · simp only [hz, Bool.true_eq_false, if_false, if_true, oI]
        · simp only [Bool.not_eq_true] at hz
          simp only [hz, Bool.false_eq_true, if_false, if_true]
      simp (disch := omega) only [D_M_go, D_M_go_47, q_bd, q_b2, R.z_4, e_isBlocked R W, hb', bI_0, if_true, e_hasOutput R W, e_partOf0 R, e_partOf1 R, e62, m_of]
      by_cases hh : m_ho M s = true
      · simp only [hh, Bool.true_eq_false, if_false, if_true]
      · simp only [Bool.not_eq_true] at hh
        simp only [hh, Bool.false_eq_true, if_false, if_true]
    · rw [m_go, if_neg hb]; exact R1
end
