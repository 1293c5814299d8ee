def m_cp (M : vM) (s f t : Nat) : vM := { M with snd.snd.fst.snd := up2 M.2.2.1.2 s t (M.2.2.1.2 s f), snd.snd.fst.fst := up2 M.2.2.1.1 s t (M.2.2.1.1 s f), snd.snd.snd.fst := fun c r i => if c = s ∧ r = t then M.2.2.2.1 s f i else M.2.2.2.1 c r i, snd.snd.snd.snd := fun c r i => if c = s ∧ r = t then M.2.2.2.2 s f i else M.2.2.2.2 c r i }
def m_mv : Nat → Nat → vM → vM
  | _, 0, M => M
  | s, p + 1, M => m_mv s p (m_cp M s p (p + 1))
def m_br (M : vM) (s k : Nat) : vM := m_cp (m_mv s k (m_cp M s k 3)) s 3 0
theorem nI_p1 (k : Nat) : nI (k + 1) - 1 = nI k := pk_sub (a := k + 1) (b := 1) (by omega)
section
variable {b : Nat} {A : vA} {o : Int64} {L : gL}
theorem e_cp43 {s f t : Nat} (hs : s < 16) (hf : f < 4) (ht : t < 4) (hne : f ≠ t) : ∀ (d k n : Nat) (M : vM) (V : gV), RZ b A M o L V → k + d = 6 → d < n → ∃ V', D_M_copy_43 L n (b + 5) (nI s) (nI f) (nI t) (nI k) V = some ((), V') ∧ RZ b A { M with snd.snd.snd.fst := fun c r i => if c = s ∧ r = t ∧ k ≤ i then M.2.2.2.1 s f i else M.2.2.2.1 c r i, snd.snd.snd.snd := fun c r i => if c = s ∧ r = t ∧ k ≤ i then M.2.2.2.2 s f i else M.2.2.2.2 c r i } o L V' := by
  intro d
  induction d with
  | zero =>
    intro k n M V R hk hn
    obtain ⟨n, rfl⟩ : ∃ n', n = n' + 1 := ⟨n - 1, by omega⟩
    refine ⟨V, ?_, R.ext ?_⟩
    · simp (disch := omega) only [D_M_copy_43, nI_6le, show 6 ≤ k by omega, if_true]
    · intro p hp
      cases p using zP_cas <;> simp only [zc]
      all_goals
        simp only [zv] at hp
        rw [if_neg (by omega)]
  | succ d ih =>
    intro k n M V R hk hn
    obtain ⟨n, rfl⟩ : ∃ n', n = n' + 1 := ⟨n - 1, by omega⟩
    have hnk : ¬ 6 ≤ k := by omega
    obtain ⟨V1, e1, R1⟩ := R.w_mW (s := s) (k := t) (i := k) (by omega) (M.2.2.2.1 s f k)
    obtain ⟨V2, e2, R2⟩ := R1.w_mH (s := s) (k := t) (i := k) (by omega) (M.2.2.2.2 s f k)
    obtain ⟨V3, e3, R3⟩ := ih (k + 1) n _ V2 R2 (by omega) (by omega)
    refine ⟨V3, ?_, R3.ext ?_⟩
    · simp (disch := omega) only [D_M_copy_43, D_M_record4, nI_6le, hnk, if_false, R.r_mP, R1.r_mP, q_bd, q_b2, nI_m4, nI_m6, nI_add, R.r_mW, e1, R1.r_mH, q_bz, e2, nI_1, e3]
    · intro p _
      cases p using zP_cas <;> simp only [zc, up3]
      all_goals
        rename_i c r i _
        by_cases h1 : c = s ∧ r = t
        · obtain ⟨rfl, rfl⟩ := h1
          by_cases h2 : k + 1 ≤ i
          · simp [h2, hne, show k ≤ i by omega]
          · by_cases h3 : i = k
            · subst h3; simp
            · simp [h2, h3, show ¬ k ≤ i by omega]
        · have h2 : ¬ (c = s ∧ r = t ∧ k + 1 ≤ i) := fun q => h1 ⟨q.1, q.2.1⟩
          have h3 : ¬ (c = s ∧ r = t ∧ k ≤ i) := fun q => h1 ⟨q.1, q.2.1⟩
          have h4 : ¬ (c = s ∧ r = t ∧ i = k) := fun q => h1 ⟨q.1, q.2.1⟩
          simp [h2, h3, h4]
theorem e_copy {s f t : Nat} (hs : s < 16) (hf : f < 4) (ht : t < 4) (hne : f ≠ t) {M : vM} {V : gV} (R : RZ b A M o L V) : ∃ V', D_M_copy (b + 5) (nI s) (nI f) (nI t) L V = some ((), V') ∧ RZ b A (m_cp M s f t) o L V' := by
  obtain ⟨V1, e1, R1⟩ := R.w_mB (s := s) (k := t) (by omega) (M.2.2.1.2 s f)
  obtain ⟨V2, e2, R2⟩ := R1.w_mF (s := s) (k := t) (by omega) (M.2.2.1.1 s f)
  obtain ⟨V3, e3, R3⟩ := e_cp43 hs hf ht hne 6 0 1000 _ V2 R2 (by omega) (by omega)
  refine ⟨V3, ?_, R3.ext ?_⟩
  · simp (disch := omega) only [D_M_copy, D_M_record4, R.r_mP, R1.r_mP, q_bd, q_b2, nI_m4, nI_add, R.r_mB, e1, R1.r_mF, e2]
    exact e3
  · intro p _
    cases p using zP_cas <;> simp [zc, m_cp]
theorem e_mv2 {s : Nat} (hs : s < 16) : ∀ (p n : Nat) (M : vM) (V : gV), RZ b A M o L V → p < 4 → p < n → ∃ V', D_M_moveBack_2 L n (b + 5) (nI s) (nI p) V = some ((), V') ∧ RZ b A (m_mv s p M) o L V' := by
  intro p
  induction p with
  | zero =>
    intro n M V R hp hn
    obtain ⟨n, rfl⟩ : ∃ n', n = n' + 1 := ⟨n - 1, by omega⟩
    refine ⟨V, ?_, R⟩
    simp (disch := omega) only [D_M_moveBack_2, nI_le0, Nat.le_refl, if_true]
  | succ p ih =>
    intro n M V R hp hn
    obtain ⟨n, rfl⟩ : ∃ n', n = n' + 1 := ⟨n - 1, by omega⟩
    obtain ⟨V1, e1, R1⟩ := e_copy (s := s) (f := p) (t := p + 1) hs (by omega) (by omega) (by omega) R
    obtain ⟨V2, e2, R2⟩ := ih n _ V1 R1 (by omega) (by omega)
    refine ⟨V2, ?_, R2⟩
    simp (disch := omega) only [D_M_moveBack_2, nI_le0, show ¬ p + 1 ≤ 0 by omega, if_false, q_bd, q_b2, R.z_4, nI_p1, pk_m1, e1, e2]
theorem e_moveBack {s p : Nat} (hs : s < 16) (hp : p < 4) {M : vM} {V : gV} (R : RZ b A M o L V) : ∃ V', D_M_moveBack (b + 5) (nI s) (nI p) L V = some ((), V') ∧ RZ b A (m_mv s p M) o L V' := e_mv2 hs p 1000 M V R hp (by omega)
theorem e_bring {s k : Nat} (hs : s < 16) (hk : k < 3) {M : vM} {V : gV} (R : RZ b A M o L V) : ∃ V', D_M_bring (b + 5) (nI s) (nI k) L V = some ((), V') ∧ RZ b A (m_br M s k) o L V' := by
  obtain ⟨V1, e1, R1⟩ := e_copy (s := s) (f := k) (t := 3) hs (by omega) (by omega) (by omega) R
  obtain ⟨V2, e2, R2⟩ := e_moveBack (s := s) (p := k) hs (by omega) R1
  obtain ⟨V3, e3, R3⟩ := e_copy (s := s) (f := 3) (t := 0) hs (by omega) (by omega) (by omega) R2
  refine ⟨V3, ?_, R3⟩
  rw [show nI 3 = (3 : Int32) from rfl] at e1 e3
  rw [show nI 0 = (0 : Int32) from rfl] at e3
  simp (disch := omega) only [D_M_bring, q_bd, q_b2, R.z_4, e1, e2, e3]
theorem m_mv_same (s p : Nat) : ∀ M : vM, (m_mv s p M).2.1.2.1 = M.2.1.2.1 ∧ (m_mv s p M).2.1.2.2 = M.2.1.2.2 ∧ (m_mv s p M).1.1.2.2 = M.1.1.2.2 ∧ (m_mv s p M).1.2.1 = M.1.2.1 ∧ (m_mv s p M).1.2.2.1 = M.1.2.2.1 ∧ (m_mv s p M).1.2.2.2 = M.1.2.2.2 ∧ (m_mv s p M).2.1.1 = M.2.1.1 ∧ (m_mv s p M).1.1.1 = M.1.1.1 ∧ (m_mv s p M).1.1.2.1 = M.1.1.2.1 := by
  induction p with
  | zero => intro M; exact ⟨rfl, rfl, rfl, rfl, rfl, rfl, rfl, rfl, rfl⟩
  | succ p ih => intro M; exact ih (m_cp M s p (p + 1))
def z_sh (p k : Nat) : Nat := if 1 ≤ k ∧ k ≤ p then k - 1 else k
theorem m_mv_ent (s : Nat) : ∀ (p : Nat) (M : vM) (c k : Nat), (m_mv s p M).2.2.1.2 c k = M.2.2.1.2 c (if c = s then z_sh p k else k) ∧ (m_mv s p M).2.2.1.1 c k = M.2.2.1.1 c (if c = s then z_sh p k else k) ∧ (m_mv s p M).2.2.2.1 c k = M.2.2.2.1 c (if c = s then z_sh p k else k) ∧ (m_mv s p M).2.2.2.2 c k = M.2.2.2.2 c (if c = s then z_sh p k else k) := by
  intro p
  induction p with
  | zero =>
    intro M c k
    have : z_sh 0 k = k := by unfold z_sh; rw [if_neg (by omega)]
    rw [this, ite_self]
    exact ⟨rfl, rfl, rfl, rfl⟩
  | succ p ih =>
    intro M c k
    obtain ⟨h1, h2, h3, h4⟩ := ih (m_cp M s p (p + 1)) c k
    show (m_mv s p (m_cp M s p (p + 1))).2.2.1.2 c k = _ ∧ (m_mv s p (m_cp M s p (p + 1))).2.2.1.1 c k = _ ∧ (m_mv s p (m_cp M s p (p + 1))).2.2.2.1 c k = _ ∧ (m_mv s p (m_cp M s p (p + 1))).2.2.2.2 c k = _
    rw [h1, h2, h3, h4]
    by_cases hc : c = s
    · subst hc
      simp only [if_true, m_cp, up2, true_and]
      have e : (z_sh p k = p + 1 ↔ k = p + 1) := by unfold z_sh; split <;> omega
      by_cases hk : k = p + 1
      · have e1 : z_sh p k = p + 1 := e.mpr hk
        have e2 : z_sh (p + 1) k = p := by unfold z_sh; rw [if_pos (by omega)]; omega
        simp [e1, e2]
      · have e1 : ¬ z_sh p k = p + 1 := fun q => hk (e.mp q)
        have e2 : z_sh (p + 1) k = z_sh p k := by unfold z_sh; by_cases g : 1 ≤ k ∧ k ≤ p <;> simp [g] <;> omega
        simp [e1, e2]
    · simp [hc, m_cp, up2]
end
