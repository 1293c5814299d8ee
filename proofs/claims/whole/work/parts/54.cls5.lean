section
variable {b : Nat} {M : vM} {o : Int64} {L : gL}
theorem a_rd61 {A : vA} {V : gV} (R : RZ b A M o L V) {s j : Nat} (hs : s < A.1.1.1.2) (hj : j < 4) : ∃ V', D_T_redo_61 L (A.1.1.2.2.1 s) (A.1.1.2.2.1 s + 3 + 3 * j) V = some ((), V') ∧ RZ b { A with snd.fst.snd.fst := up2 A.2.1.2.1 6 s false, snd.fst.snd.snd.fst := up2 A.2.1.2.2.1 9 s (if A.2.2.1.2 s j = -1 then 2 else 3) } M o L V' := by
  obtain ⟨V1, e1, R1⟩ := R.w_sZ (j := 6) (s := s) (by omega) false
  rw [bI_f] at e1
  have e2 : D_N_hasFailed (A.1.1.2.2.1 s + 3 + 3 * j) L V1 = some (bI (decide (A.2.2.1.2 s j ≠ -1)), V1) := a_hasFailed R1 (s := s) (j := j) hs hj
  obtain ⟨V2, e3, R2⟩ := R1.w_sI (j := 9) (s := s) ⟨hs, by omega⟩ (if A.2.2.1.2 s j = -1 then 2 else 3)
  replace e3 : g_wr L V1 2 (A.1.1.2.2.1 s) 9 (tI (if A.2.2.1.2 s j = -1 then 2 else 3)) = some V2 := e3
  refine ⟨V2, ?_, R2⟩
  simp (disch := omega) only [D_T_redo_61, e1, q_bd, R.z_0, e2, q_b2, bI_0, decide_eq_false_iff_not]
  by_cases g : A.2.2.1.2 s j = -1
  · rw [if_pos g] at e3
    rw [if_pos (not_not_intro g), e3, q_bd]
  · rw [if_neg g] at e3
    rw [if_neg (not_not_intro g), e3, q_bd]
theorem a_redo {A : vA} {V : gV} (R : RZ b A M o L V) (W : WA A) {s : Nat} (hs : s < A.1.1.1.2) (m : Option Nat) (hm : ∀ k, m = some k → k < 3) : ∃ V', D_T_redo (A.1.1.2.2.1 s) (oI m) L V = some ((), V') ∧ RZ b (a_rdo A s m) M o L V' := by
  have h3 := W.nc s hs
  have hp3 := W.pm s 3 hs (by omega)
  obtain ⟨V1, e1, R1⟩ := a_fillOutcome R W hs hp3
  have W1 : WA (a_fo A s (A.2.2.1.1 s 3)) := W.of rfl rfl rfl rfl rfl
  cases m with
  | none =>
    obtain ⟨V2, e2, R2⟩ := a_bringFirst R1 W1 (s := s) (p := 3) hs (by omega)
    replace e2 : D_T_bringFirst (A.1.1.2.2.1 s) (3 : Int32) L V1 = some ((), V2) := e2
    have ec : g_rI L V2 2 (A.1.1.2.2.1 s) 5 = some (nI (A.2.1.1.2 5 s)) := R2.r_sN (j := 5) (s := s) ⟨hs, by omega⟩
    obtain ⟨V3, e3, R3⟩ := R2.w_sN (j := 5) (s := s) ⟨hs, by omega⟩ (if 3 < A.2.1.1.2 5 s + 1 then 3 else A.2.1.1.2 5 s + 1)
    replace e3 : g_wr L V2 2 (A.1.1.2.2.1 s) 5 (tI (nI (if 3 < A.2.1.1.2 5 s + 1 then 3 else A.2.1.1.2 5 s + 1))) = some V3 := e3
    obtain ⟨V4, e4, R4⟩ := a_rd61 R3 (s := s) (j := A.2.2.1.1 s 3) hs hp3
    replace e4 : D_T_redo_61 L (A.1.1.2.2.1 s) (A.1.1.2.2.1 s + 3 + 3 * A.2.2.1.1 s 3) V3 = some ((), V4) := e4
    refine ⟨V4, ?_, R4⟩
    have ex : (if (3 : Int32) < nI (A.2.1.1.2 5 s) + (1 : Int32) then (3 : Int32) else nI (A.2.1.1.2 5 s) + (1 : Int32)) = nI (if 3 < A.2.1.1.2 5 s + 1 then 3 else A.2.1.1.2 5 s + 1) := by
      have hh : ((3 : Int32) < nI (A.2.1.1.2 5 s) + (1 : Int32)) = (3 < A.2.1.1.2 5 s + 1) := by rw [nI_1]; exact nI_ltp (a := 3) (by omega) (by omega)
      simp only [hh]
      split
      · rfl
      · exact nI_1 _
    simp (disch := omega) only [D_T_redo, R.z_2, q_bd, a_spareEntry R, q_b2, e1, oI, if_true, e2, ec, ex, e3, e4]
  | some k =>
    have hk := hm k rfl
    have hpk := W.pm s k hs (by omega)
    have r4 : g_rR L V1 2 (A.1.1.2.2.1 s) 4 = some (some (A.1.1.2.2.1 s + 2)) := R1.r_sP4 hs
    have rk : g_aR L V1 105 (A.1.1.2.2.1 s + 2) (nI k) = some (some (A.1.1.2.2.1 s + 3 + 3 * A.2.2.1.1 s k)) := R1.r_se (s := s) (k := k) ⟨hs, by omega⟩
    obtain ⟨V2, e2, R2⟩ := R1.w_se (s := s) (k := 3) ⟨hs, by omega⟩ (A.2.2.1.1 s k)
    replace e2 : g_wa L V1 105 (A.1.1.2.2.1 s + 2) (3 : Int32) (tR (some (A.1.1.2.2.1 s + 3 + 3 * A.2.2.1.1 s k))) = some V2 := e2
    have r5 : g_rR L V2 2 (A.1.1.2.2.1 s) 4 = some (some (A.1.1.2.2.1 s + 2)) := R2.r_sP4 hs
    obtain ⟨V3, e3, R3⟩ := R2.w_se (s := s) (k := k) ⟨hs, by omega⟩ (A.2.2.1.1 s 3)
    replace e3 : g_wa L V2 105 (A.1.1.2.2.1 s + 2) (nI k) (tR (some (A.1.1.2.2.1 s + 3 + 3 * A.2.2.1.1 s 3))) = some V3 := e3
    replace R3 : RZ b { a_fo A s (A.2.2.1.1 s 3) with snd.snd.fst.fst := up2 (up2 A.2.2.1.1 s 3 (A.2.2.1.1 s k)) s k (A.2.2.1.1 s 3) } M o L V3 := R3
    have W3 : WA { a_fo A s (A.2.2.1.1 s 3) with snd.snd.fst.fst := up2 (up2 A.2.2.1.1 s 3 (A.2.2.1.1 s k)) s k (A.2.2.1.1 s 3) } := ⟨W.nf, W.ns, W.nr, W.nc, W.rd, fun c i hc hi => by
      show up2 (up2 A.2.2.1.1 s 3 (A.2.2.1.1 s k)) s k (A.2.2.1.1 s 3) c i < 4
      unfold up2
      split
      · exact hp3
      · split
        · exact hpk
        · exact W.pm c i hc hi⟩
    obtain ⟨V4, e4, R4⟩ := a_bringFirst R3 W3 (s := s) (p := k) hs (by omega)
    replace e4 : D_T_bringFirst (A.1.1.2.2.1 s) (nI k) L V3 = some ((), V4) := e4
    have ek : up2 (up2 A.2.2.1.1 s 3 (A.2.2.1.1 s k)) s k (A.2.2.1.1 s 3) s k = A.2.2.1.1 s 3 := by simp [up2]
    replace R4 : RZ b (a_rp (a_fo A s (A.2.2.1.1 s 3)) s (some k)) M o L V4 := by
      have h : RZ b (a_bf { a_fo A s (A.2.2.1.1 s 3) with snd.snd.fst.fst := up2 (up2 A.2.2.1.1 s 3 (A.2.2.1.1 s k)) s k (A.2.2.1.1 s 3) } s k (up2 (up2 A.2.2.1.1 s 3 (A.2.2.1.1 s k)) s k (A.2.2.1.1 s 3) s k)) M o L V4 := R4
      rw [ek] at h
      exact h
    obtain ⟨V5, e5, R5⟩ := a_rd61 R4 (s := s) (j := A.2.2.1.1 s 3) hs hp3
    replace e5 : D_T_redo_61 L (A.1.1.2.2.1 s) (A.1.1.2.2.1 s + 3 + 3 * A.2.2.1.1 s 3) V4 = some ((), V5) := e5
    refine ⟨V5, ?_, R5⟩
    simp (disch := omega) only [D_T_redo, R.z_2, q_bd, a_spareEntry R, q_b2, e1, oI, z_nm1, if_false, r4, rk, R.z_0, e2, r5, e3, e4, e5]
theorem a_causeToRedo {A : vA} {V : gV} (R : RZ b A M o L V) (W : WA A) {s : Nat} (hs : s < A.1.1.1.2) : D_A_causeToRedo (A.1.1.2.2.1 s) (A.1.1.2.2.1 s + 3 + 3 * A.2.2.1.1 s 3) L V = some (nI (a_ca A s), V) := by
  have h3 := W.nc s hs
  have h6 := W.nr s hs
  have hp3 := W.pm s 3 hs (by omega)
  have hp0 := W.pm s 0 hs (by omega)
  simp (disch := omega) only [D_A_causeToRedo, R.z_2, q_bd, a_entryAt0 R W, q_b2, a_ca]
  by_cases g0 : A.2.1.1.2 5 s = 0
  · simp only [g0, if_true, q_on0]; rfl
  · simp (disch := omega) only [g0, if_false, q_on1, R.r_sN, q_bd, R.z_0, a_firstDifference R hs hp0 hp3 h6, q_b2, R.r_sZ, bI_0]
    by_cases g1 : A.2.1.2.1 6 s = true
    · simp only [g1, Bool.true_eq_false, if_false, if_true]; rfl
    · simp only [Bool.not_eq_true] at g1
      simp only [g1, if_true, Bool.false_eq_true, if_false]
      obtain ⟨f, hf⟩ : ∃ f, z_fst (a_df A s (A.2.2.1.1 s 0) (A.2.2.1.1 s 3)) 0 (A.2.1.1.2 3 s) = f := ⟨_, rfl⟩
      simp only [hf]
      cases f with
      | none => simp only [oI, if_true]; rfl
      | some i =>
        have hi := (z_fst_lt _ _ _ _ hf).2.1
        have hr := W.rd s i hs (by omega)
        have hns := W.ns
        simp (disch := omega) only [oI, z_nm1, if_false, R.r_sP2, R.r_sr, q_bd, a_isFileCode, q_b2, bI_0, decide_eq_false_iff_not]
        by_cases g2 : A.2.1.2.2.2 s i < 16
        · simp only [g2, not_true_eq_false, if_false, if_true]; rfl
        · simp only [g2, not_false_eq_true, if_false, if_true]; rfl
theorem RZ.r_k {A : vA} {V : gV} (R : RZ b A M o L V) : g_aI L V 100 (b + 3) (0 : Int32) = some (A.1.2.2.1 0) ∧ g_aI L V 100 (b + 3) (1 : Int32) = some (A.1.2.2.1 1) ∧ g_aI L V 100 (b + 3) (2 : Int32) = some (A.1.2.2.1 2) ∧ g_aI L V 100 (b + 3) (3 : Int32) = some (A.1.2.2.1 3) ∧ g_aI L V 100 (b + 3) (4 : Int32) = some (A.1.2.2.1 4) :=
  ⟨R.r_ac (i := 0) (by omega), R.r_ac (i := 1) (by omega), R.r_ac (i := 2) (by omega), R.r_ac (i := 3) (by omega), R.r_ac (i := 4) (by omega)⟩
theorem a_cm22 {A : vA} {V : gV} (R : RZ b A M o L V) (W : WA A) {s : Nat} (hs : s < A.1.1.1.2) (m : Option Nat) (hm : ∀ j, m = some j → j < 4) {x : Int32} (hx : (x = 0 ∧ ¬ (A.2.1.2.2.1 9 s = 2 ∨ A.2.1.2.2.1 9 s = 6)) ∨ (x = 1 ∧ (A.2.1.2.2.1 9 s = 2 ∨ A.2.1.2.2.1 9 s = 6))) : ∃ V', D_A_compareOutputs_22 L b (m.map fun j => A.1.1.2.2.1 s + 3 + 3 * j) (A.1.1.2.2.1 s) x V = some ((), V') ∧ RZ b (a_cm A s m) M o L V' := by
  have hp0 := W.pm s 0 hs (by omega)
  simp (disch := omega) only [D_A_compareOutputs_22, R.z_2, q_bd, a_entryAt0 R W, q_b2]
  cases m with
  | none =>
    refine ⟨V, ?_, R⟩
    rcases hx with ⟨rfl, -⟩ | ⟨rfl, -⟩
    · simp only [if_true]
    · simp only [Option.map_none, q_on0, ite_self]
  | some j =>
    have hj := hm j rfl
    rcases hx with ⟨rfl, hx⟩ | ⟨rfl, hx⟩
    · refine ⟨V, by simp only [if_true], ?_⟩
      simp only [a_cm, hx, false_and, if_false]; exact R
    · simp (disch := omega) only [show ((1 : Int32) = 0) = False from eq_false (by decide), if_false, Option.map_some, q_on1, R.z_0, q_bd, a_hasFailed R hs, q_b2, bI_0, decide_eq_false_iff_not]
      by_cases g1 : A.2.2.1.2 s j = -1
      · rw [if_pos (not_not_intro g1)]
        by_cases g0 : A.2.1.1.2 5 s = 0
        · refine ⟨V, by simp only [g0, if_true, q_on0], ?_⟩
          simp only [a_cm, g0, ne_eq, not_true_eq_false, and_false, if_false]; exact R
        · simp (disch := omega) only [g0, if_false, q_on1, R.r_eJ, q_bd, lg_cmp_eq]
          have hc : (A.2.1.2.2.1 9 s = 2 ∨ A.2.1.2.2.1 9 s = 6) ∧ A.2.2.1.2 s j = -1 ∧ A.2.1.1.2 5 s ≠ 0 := ⟨hx, g1, g0⟩
          by_cases g2 : A.2.2.2.1 4 s (A.2.2.1.1 s 0) = A.2.2.2.1 4 s j
          · obtain ⟨V1, e1, R1⟩ := R.w_ac (i := 1) (by omega) (A.1.2.2.1 1 + 1)
            replace e1 : g_wa L V 100 (b + 3) (1 : Int32) (tI (A.1.2.2.1 1 + 1)) = some V1 := e1
            have r9 : g_rI L V1 2 (A.1.1.2.2.1 s) 9 = some (A.2.1.2.2.1 9 s) := R1.r_sI (j := 9) (s := s) ⟨hs, by omega⟩
            have r6 : g_rI L V1 3 b 6 = some A.1.2.2.2.2 := R1.r_aI
            simp only [g2, if_true, R.r_aP4, q_bd, R.r_k.2.1, e1, r9]
            by_cases g3 : A.2.1.2.2.1 9 s = 2
            · obtain ⟨V2, e2, R2⟩ := R1.w_aI (A.1.2.2.2.2 + 1)
              refine ⟨V2, ?_, ?_⟩
              · simp only [g3, if_true, r6, q_bd, e2]
              · simp only [a_cm, if_pos hc, if_pos g2, if_pos g3]; exact R2
            · refine ⟨V1, ?_, ?_⟩
              · simp only [g3, if_false]
              · simp only [a_cm, if_pos hc, if_pos g2, if_neg g3]; exact R1
          · simp only [g2, if_false]
            by_cases g3 : A.2.2.2.1 3 s (A.2.2.1.1 s 0) = A.2.2.2.1 3 s j
            · obtain ⟨V1, e1, R1⟩ := R.w_ac (i := 2) (by omega) (A.1.2.2.1 2 + 1)
              replace e1 : g_wa L V 100 (b + 3) (2 : Int32) (tI (A.1.2.2.1 2 + 1)) = some V1 := e1
              refine ⟨V1, ?_, ?_⟩
              · simp only [g3, if_true, R.r_aP4, q_bd, R.r_k.2.2.1, e1]
              · simp only [a_cm, if_pos hc, if_neg g2, if_pos g3]; exact R1
            · refine ⟨V, ?_, ?_⟩
              · simp only [g3, if_false]
              · simp only [a_cm, if_pos hc, if_neg g2, if_neg g3]; exact R
      · rw [if_neg (not_not_intro g1)]
        refine ⟨V, rfl, ?_⟩
        simp only [a_cm, g1, false_and, and_false, if_false]; exact R
theorem a_compareOutputs {A : vA} {V : gV} (R : RZ b A M o L V) (W : WA A) {s : Nat} (hs : s < A.1.1.1.2) (m : Option Nat) (hm : ∀ j, m = some j → j < 4) : ∃ V', D_A_compareOutputs b (m.map fun j => A.1.1.2.2.1 s + 3 + 3 * j) (A.1.1.2.2.1 s) L V = some ((), V') ∧ RZ b (a_cm A s m) M o L V' := by
  simp (disch := omega) only [D_A_compareOutputs, D_A_compareOutputs_17, R.r_sI, q_bd]
  by_cases g2 : A.2.1.2.2.1 9 s = 2
  · simp only [g2, if_true]
    exact a_cm22 R W hs m hm (Or.inr ⟨rfl, Or.inl g2⟩)
  · by_cases g6 : A.2.1.2.2.1 9 s = 6
    · rw [if_neg g2, if_pos g6]
      exact a_cm22 R W hs m hm (Or.inr ⟨rfl, Or.inr g6⟩)
    · rw [if_neg g2, if_neg g6]
      exact a_cm22 R W hs m hm (Or.inl ⟨rfl, fun q => q.elim g2 g6⟩)
theorem a_u41 {A : vA} {V : gV} (R : RZ b A M o L V) (W : WA A) {s : Nat} (hs : s < A.1.1.1.2) (m : Option Nat) (hm : ∀ k, m = some k → k < 3) (bo : Option Nat) (hb : ∀ j, bo = some j → j < 4) : ∃ V', D_A_bringUpToDate_41 L b (A.1.1.2.2.1 s) (bo.map fun j => A.1.1.2.2.1 s + 3 + 3 * j) (A.1.1.2.2.1 s + 3 + 3 * A.2.2.1.1 s 3) (oI m) V = some ((), V') ∧ RZ b (a_cm (a_u3 A s m) s bo) M o L V' := by
  have hc := a_ca_lt A s
  obtain ⟨V1, e1, R1⟩ := a_redo R W hs m hm
  have hS : (a_rdo A s m).1.1.1.2 = A.1.1.1.2 ∧ (a_rdo A s m).1.1.2.2.1 = A.1.1.2.2.1 ∧ (a_rdo A s m).1.2.2.2.1 = A.1.2.2.2.1 := by
    cases m <;> exact ⟨rfl, rfl, rfl⟩
  obtain ⟨V2, e2, R2⟩ := R1.w_sI (j := 10) (s := s) ⟨by rw [hS.1]; exact hs, by omega⟩ (nI (a_ca A s))
  rw [hS.2.1] at e2
  have r5 : g_rR L V2 3 b 5 = some (some (b + 4)) := R2.r_aP5
  have rt : g_aI L V2 100 (b + 4) (nI (a_ca A s)) = some (A.1.2.2.2.1 (a_ca A s)) := by
    refine (R2.r_at (i := a_ca A s) hc).trans ?_
    show some ((a_rdo A s m).1.2.2.2.1 (a_ca A s)) = _
    rw [hS.2.2]
  obtain ⟨V3, e3, R3⟩ := R2.w_at (i := a_ca A s) hc (A.1.2.2.2.1 (a_ca A s) + 1)
  have R3' : RZ b (a_u3 A s m) M o L V3 := by
    unfold a_u3
    rw [← hS.2.2]
    rw [← hS.2.2] at R3
    exact R3
  have hS3 : (a_u3 A s m).1.1.2.2.1 = A.1.1.2.2.1 := (aS.u3 A s m).stp
  obtain ⟨V4, e4, R4⟩ := a_compareOutputs R3' (W.u3 hs hm) (s := s) (by rw [(aS.u3 A s m).ns]; exact hs) bo hb
  rw [hS3] at e4
  refine ⟨V4, ?_, R4⟩
  simp (disch := omega) only [D_A_bringUpToDate_41, D_A_bringUpToDate_71, a_causeToRedo R W, q_b2, R.z_2, R.z_3, q_bd, e1, e2, r5, rt, e3, e4]
theorem a_bringUpToDate {A : vA} {V : gV} (R : RZ b A M o L V) (W : WA A) {s : Nat} (hs : s < A.1.1.1.2) : ∃ V', D_A_bringUpToDate b (A.1.1.2.2.1 s) L V = some ((), V') ∧ RZ b (a_up A s) M o L V' := by
  have h3 := W.nc s hs
  have hp3 := W.pm s 3 hs (by omega)
  have hp0 := W.pm s 0 hs (by omega)
  obtain ⟨V1, e1, R1⟩ := a_readNow R W hs
  have W1 : WA (a_rn A s) := W.of rfl rfl rfl rfl rfl
  have hm : ∀ k, a_ps (a_rn A s) s (A.2.2.1.1 s 3) = some k → k < 3 := fun k hk => by
    have := a_ps_lt hk
    have e : (a_rn A s).2.1.1.2 5 s = A.2.1.1.2 5 s := rfl
    omega
  have hb : ∀ j, a_bo A s = some j → j < 4 := by
    intro j hj
    unfold a_bo at hj
    split at hj
    · cases hj
    · cases hj; exact hp0
  have hbm : (if A.2.1.1.2 5 s = 0 then none else some (A.1.1.2.2.1 s + 3 + 3 * A.2.2.1.1 s 0)) = (a_bo A s).map fun j => A.1.1.2.2.1 s + 3 + 3 * j := by
    unfold a_bo
    split <;> rfl
  have eps : D_T_placeOfSameReads (A.1.1.2.2.1 s) (A.1.1.2.2.1 s + 3 + 3 * A.2.2.1.1 s 3) L V1 = some (oI (a_ps (a_rn A s) s (A.2.2.1.1 s 3)), V1) := a_placeOfSameReads R1 W1 (s := s) (c := A.2.2.1.1 s 3) hs hp3
  have ef : g_rI L V1 2 (A.1.1.2.2.1 s) 6 = some (bI (A.2.1.2.1 6 s)) := R1.r_sZ (j := 6) (s := s) ⟨hs, by omega⟩
  have r41 := a_u41 R1 W1 (s := s) hs (a_ps (a_rn A s) s (A.2.2.1.1 s 3)) hm (a_bo A s) hb
  obtain ⟨V2, e2, R2⟩ := r41
  replace e2 : D_A_bringUpToDate_41 L b (A.1.1.2.2.1 s) ((a_bo A s).map fun j => A.1.1.2.2.1 s + 3 + 3 * j) (A.1.1.2.2.1 s + 3 + 3 * A.2.2.1.1 s 3) (oI (a_ps (a_rn A s) s (A.2.2.1.1 s 3))) V1 = some ((), V2) := e2
  simp (disch := omega) only [D_A_bringUpToDate, R.z_2, R.z_3, q_bd, a_entryAt0 R W, q_b2, e1, eps, hbm, ef, bI_0, a_up]
  obtain ⟨m, hps⟩ : ∃ m, a_ps (a_rn A s) s (A.2.2.1.1 s 3) = m := ⟨_, rfl⟩
  rw [hps] at e2 R2 hm
  simp only [hps]
  cases m with
  | none =>
    refine ⟨V2, ?_, R2⟩
    rw [show oI none = (-1 : Int32) from rfl] at e2 ⊢
    rw [if_pos rfl]; exact e2
  | some k =>
    have hk := hm k rfl
    rw [show oI (some k) = nI k from rfl] at e2 ⊢
    simp (disch := omega) only [z_nm1, if_false]
    by_cases g : A.2.1.2.1 6 s = true
    · refine ⟨V2, ?_, ?_⟩
      · simp only [g, Bool.true_eq_false, if_false]; exact e2
      · have : a_ur (a_rn A s) s (some k) = a_u3 (a_rn A s) s (some k) := if_pos g
        rw [this]; exact R2
    · have hur : a_ur (a_rn A s) s (some k) = a_ru (a_rn A s) s k := if_neg g
      obtain ⟨V3, e3, R3⟩ := a_reuse R1 W1 (s := s) (k := k) hs hk
      replace e3 : D_T_reuse (A.1.1.2.2.1 s) (nI k) L V1 = some ((), V3) := e3
      obtain ⟨V4, e4, R4⟩ := a_compareOutputs R3 (W1.ru hs hk) (s := s) hs (a_bo A s) hb
      replace e4 : D_A_compareOutputs b ((a_bo A s).map fun j => A.1.1.2.2.1 s + 3 + 3 * j) (A.1.1.2.2.1 s) L V3 = some ((), V4) := e4
      simp only [Bool.not_eq_true] at g
      refine ⟨V4, ?_, by rw [hur]; exact R4⟩
      simp only [g, if_true, e3, q_b2, D_A_bringUpToDate_71, R.z_3, q_bd, e4]
theorem a_bo26 {A : vA} {V : gV} (R : RZ b A M o L V) (W : WA A) {s : Nat} (hs : s < A.1.1.1.2) : ∃ V', D_A_buildOne_26 L b (A.1.1.2.2.1 s) V = some ((), V') ∧ RZ b (a_bw A s) M o L V' := by
  by_cases hb : a_bl A s = true
  · obtain ⟨V1, e1, R1⟩ := R.w_sI (j := 9) (s := s) (by omega) 5
    obtain ⟨V2, e2, R2⟩ := R1.w_ac (i := 3) (by omega) (A.1.2.2.1 3 + 1)
    replace e2 : g_wa L V1 100 (b + 3) (3 : Int32) (tI (A.1.2.2.1 3 + 1)) = some V2 := e2
    have rc : g_aI L V1 100 (b + 3) (3 : Int32) = some (A.1.2.2.1 3) := R1.r_k.2.2.2.1
    refine ⟨V2, ?_, by rw [a_bw, if_pos hb]; exact R2⟩
    simp (disch := omega) only [D_A_buildOne_26, R.z_3, q_bd, a_isBlocked R W, q_b2, hb, bI_0, Bool.true_eq_false, if_false, e1, R1.r_aP4, rc, e2]
  · obtain ⟨V1, e1, R1⟩ := a_bringUpToDate R W hs
    have hS := aS.up A s
    have r8 : g_rI L V1 2 (A.1.1.2.2.1 s) 8 = some (bI (A.2.1.2.1 8 s)) := by
      have h := R1.r_sZ (j := 8) (s := s) ⟨by rw [hS.ns]; exact hs, by omega⟩
      rw [hS.stp, hS.mq] at h
      exact h
    have r10 : g_rI L V1 2 (A.1.1.2.2.1 s) 10 = some ((a_up A s).2.1.2.2.1 10 s) := by
      have h := R1.r_sI (j := 10) (s := s) ⟨by rw [hS.ns]; exact hs, by omega⟩
      rw [hS.stp] at h
      exact h
    rw [a_bw, if_neg hb]
    simp only [Bool.not_eq_true] at hb
    obtain ⟨V2, e2, R2⟩ := R1.w_ac (i := 0) (by omega) ((a_up A s).1.2.2.1 0 + bI (A.2.1.2.1 8 s && decide ((a_up A s).2.1.2.2.1 10 s = -1)))
    replace e2 : g_wa L V1 100 (b + 3) (0 : Int32) (tI ((a_up A s).1.2.2.1 0 + bI (A.2.1.2.1 8 s && decide ((a_up A s).2.1.2.2.1 10 s = -1)))) = some V2 := e2
    have keep : (A.2.1.2.1 8 s && decide ((a_up A s).2.1.2.2.1 10 s = -1)) = false → RZ b { a_up A s with fst.snd.snd.fst := up1 (a_up A s).1.2.2.1 0 ((a_up A s).1.2.2.1 0 + bI (A.2.1.2.1 8 s && decide ((a_up A s).2.1.2.2.1 10 s = -1))) } M o L V1 := by
      intro hz
      refine R1.exA rfl rfl rfl rfl ?_
      intro p _
      cases p using zP_cas <;> simp only [zc]
      congr 1
      unfold up1
      split
      · rename_i h; rw [hz, h, bI_f, i32_a0]
      · rfl
    simp (disch := omega) only [D_A_buildOne_26, R.z_3, q_bd, a_isBlocked R W, q_b2, hb, bI_0, if_true, e1, r8, r10, R1.r_aP4, R1.r_k.1]
    by_cases g8 : A.2.1.2.1 8 s = true
    · simp only [g8, Bool.true_eq_false, if_false]
      by_cases g10 : (a_up A s).2.1.2.2.1 10 s = -1
      · rw [g8, decide_eq_true g10, Bool.true_and, bI_t] at e2
        refine ⟨V2, ?_, by simpa only [g8, Bool.true_and] using R2⟩
        simp only [g10, if_true, e2, q_bd]
      · refine ⟨V1, ?_, by simpa only [g8, Bool.true_and] using keep (by simp [g10])⟩
        simp only [g10, if_false]
    · simp only [Bool.not_eq_true] at g8
      refine ⟨V1, ?_, keep (by simp [g8])⟩
      simp only [g8, if_true]
theorem a_buildOne {A : vA} {V : gV} (R : RZ b A M o L V) (W : WA A) {s : Nat} (hs : s < A.1.1.1.2) : ∃ V', D_A_buildOne b (A.1.1.2.2.1 s) L V = some ((), V') ∧ RZ b (a_b1 A s) M o L V' := by
  obtain ⟨V1, e1, R1⟩ := R.w_sZ (j := 8) (s := s) (by omega) (a_mk A s)
  have r8 : g_rI L V1 2 (A.1.1.2.2.1 s) 8 = some (bI (a_mk A s)) := by
    refine (R1.r_sZ (j := 8) (s := s) ⟨hs, by omega⟩).trans ?_
    simp [up2]
  have st : ∃ V2, D_A_buildOne b (A.1.1.2.2.1 s) L V = D_A_buildOne_26 L b (A.1.1.2.2.1 s) V2 ∧ RZ b (a_b0 A s) M o L V2 := by
    by_cases g : a_mk A s = true
    · obtain ⟨V2, e2, R2⟩ := R1.w_ac (i := 4) (by omega) (A.1.2.2.1 4 + bI (a_mk A s))
      replace e2 : g_wa L V1 100 (b + 3) (4 : Int32) (tI (A.1.2.2.1 4 + bI (a_mk A s))) = some V2 := e2
      have rc : g_aI L V1 100 (b + 3) (4 : Int32) = some (A.1.2.2.1 4) := R1.r_k.2.2.2.2
      refine ⟨V2, ?_, R2⟩
      rw [g, bI_t] at e2
      rw [g] at e1 r8
      simp (disch := omega) only [D_A_buildOne, R.z_3, q_bd, a_isMarked R W, q_b2, q_bz, e1, r8, bI_0, g, Bool.true_eq_false, if_false, R1.r_aP4, rc, e2]
    · simp only [Bool.not_eq_true] at g
      refine ⟨V1, ?_, R1.exA rfl rfl rfl rfl ?_⟩
      · rw [g] at e1 r8
        simp (disch := omega) only [D_A_buildOne, R.z_3, q_bd, a_isMarked R W, q_b2, g, q_bz, e1, r8, bI_0, if_true]
      · intro p _
        cases p using zP_cas <;> simp only [zc, a_b0]
        congr 1
        unfold up1
        split
        · rename_i h; rw [g, h, bI_f, i32_a0]
        · rfl
  obtain ⟨V2, e2, R2⟩ := st
  obtain ⟨V3, e3, R3⟩ := a_bo26 R2 (W.of rfl rfl rfl rfl rfl) (s := s) hs
  exact ⟨V3, e2.trans e3, R3⟩
theorem a_bd13 : ∀ (d s n : Nat) (a : Int32) (A : vA) (V : gV), RZ b A M o L V → WA A → s + d = A.1.1.1.2 → d < n → ∃ V', D_A_build_13 L n b a (nI s) V = some ((a_bd s d a A).1, V') ∧ RZ b (a_bd s d a A).2 M o L V' := by
  intro d
  induction d with
  | zero =>
    intro s n a A V R W hk hn
    obtain ⟨n, rfl⟩ : ∃ n', n = n' + 1 := ⟨n - 1, by omega⟩
    have hns := W.ns
    have ens : g_rI L V 3 b 3 = some (nI A.1.1.1.2) := R.r_aN (j := 3) (by omega)
    refine ⟨V, ?_, R⟩
    simp (disch := omega) only [D_A_build_13, ens, q_bd, nI_lep, show A.1.1.1.2 ≤ s by omega, if_true, a_bd]
  | succ d ih =>
    intro s n a A V R W hk hn
    obtain ⟨n, rfl⟩ : ∃ n', n = n' + 1 := ⟨n - 1, by omega⟩
    have hns := W.ns
    have ens : g_rI L V 3 b 3 = some (nI A.1.1.1.2) := R.r_aN (j := 3) (by omega)
    simp (disch := omega) only [D_A_build_13, ens, q_bd, nI_lep, show ¬ A.1.1.1.2 ≤ s by omega, if_false, R.r_aP2, R.r_as, R.r_sZ, bI_0, R.z_3, nI_1, a_bd]
    by_cases ht : A.2.1.2.1 7 s = true
    · obtain ⟨V1, e1, R1⟩ := a_buildOne R W (s := s) (by omega)
      obtain ⟨h1, h2⟩ := a_b1_ns A s
      have r10 : g_rI L V1 2 (A.1.1.2.2.1 s) 10 = some ((a_b1 A s).2.1.2.2.1 10 s) := by
        have h := R1.r_sI (j := 10) (s := s) ⟨by rw [h1]; omega, by omega⟩
        rw [h2] at h
        exact h
      obtain ⟨V2, e2, R2⟩ := ih (s + 1) n (a + bI (decide ((a_b1 A s).2.1.2.2.1 10 s ≠ -1))) _ V1 R1 (W.b1 (by omega)) (by rw [h1]; omega) (by omega)
      refine ⟨V2, ?_, by simpa only [ht, if_true] using R2⟩
      simp only [ht, Bool.true_eq_false, if_false, if_true, e1, q_b2, r10, q_bd]
      rw [← e2]
      by_cases g : (a_b1 A s).2.1.2.2.1 10 s = -1
      · rw [if_pos g, show decide ((a_b1 A s).2.1.2.2.1 10 s ≠ -1) = false by simp [g], bI_f, i32_a0]
      · rw [if_neg g, show decide ((a_b1 A s).2.1.2.2.1 10 s ≠ -1) = true by simp [g], bI_t]
    · obtain ⟨V2, e2, R2⟩ := ih (s + 1) n a A V R W (by omega) (by omega)
      simp only [Bool.not_eq_true] at ht
      refine ⟨V2, ?_, by simpa only [ht, Bool.false_eq_true, if_false] using R2⟩
      simp only [ht, Bool.false_eq_true, if_false, if_true, e2]
theorem a_tk_same (x : Int32) : ∀ (s : Nat) (A : vA), ∃ Z, a_tk x s A = { A with snd.fst.snd.fst := Z }
  | 0, A => ⟨A.2.1.2.1, rfl⟩
  | s + 1, A => by
    obtain ⟨Z, h⟩ := a_t1_same x A s
    obtain ⟨Z', h'⟩ := a_tk_same x s (a_t1 x A s)
    exact ⟨Z', by show a_tk x s (a_t1 x A s) = _; rw [h', h]⟩
theorem a_build {A : vA} {V : gV} (R : RZ b A M o L V) (W : WA A) (x : Int32) : ∃ V', D_A_build b x L V = some ((a_bd 0 A.1.1.1.2 0 (a_tk x A.1.1.1.2 (a_z0 A))).1, V') ∧ RZ b (a_bd 0 A.1.1.1.2 0 (a_tk x A.1.1.1.2 (a_z0 A))).2 M o L V' := by
  have hns := W.ns
  obtain ⟨V1, e1, R1⟩ := a_forget R W
  have W1 : WA (a_z0 A) := W.of rfl rfl rfl rfl rfl
  obtain ⟨V2, e2, R2⟩ := a_takeNeeded R1 W1 x
  obtain ⟨Z, hZ⟩ := a_tk_same x A.1.1.1.2 (a_z0 A)
  have W2 : WA (a_tk x A.1.1.1.2 (a_z0 A)) := by rw [hZ]; exact W1.of rfl rfl rfl rfl rfl
  obtain ⟨V3, e3, R3⟩ := a_bd13 A.1.1.1.2 0 1000 0 (a_tk x A.1.1.1.2 (a_z0 A)) V2 R2 W2 (by rw [hZ]; show 0 + A.1.1.1.2 = A.1.1.1.2; omega) (by omega)
  refine ⟨V3, ?_, R3⟩
  unfold D_A_build
  rw [R.z_3, q_bd, e1, q_b2, q_bd, e2, q_b2]
  exact e3
end
