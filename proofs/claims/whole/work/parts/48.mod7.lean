def z_bit (x : Int32) (s : Nat) : Bool := decide (((x >>> (nI s &&& 31)) &&& 1) = 1)
def m_tp (M : vM) (t s i : Nat) : Bool := M.1.2.1 21 t && decide (M.2.1.2.2 11 t i ≠ 2 ∧ M.2.1.2.2 10 t i = s)
def m_t1 (x : Int32) (M : vM) (s : Nat) : vM := { M with fst.snd.fst := up2 M.1.2.1 21 s (z_bit x s || z_any (fun t => z_any (m_tp M t s) 0 (M.2.1.2.1 9 t)) (s + 1) (M.1.1.2.1 2 - (s + 1))) }
def m_tk (x : Int32) : Nat → vM → vM
  | 0, M => M
  | s + 1, M => m_tk x s (m_t1 x M s)
def m_mp (M : vM) (s k : Nat) : Bool := if M.2.1.2.2 11 s k = 2 then !(m_as M s 0 k) else M.1.2.1 22 (M.2.1.2.2 10 s k)
def m_mv1 (M : vM) (s : Nat) : Bool := M.1.2.1 21 s && (decide (M.2.1.2.1 12 s = 0) || M.1.2.1 7 s || z_any (m_mp M s) 0 (M.2.1.2.1 9 s))
def m_m1 (M : vM) (s : Nat) : vM := { M with fst.snd.fst := up2 M.1.2.1 22 s (m_mv1 M s), fst.snd.snd.snd := up1 M.1.2.2.2 4 (M.1.2.2.2 4 + bI (m_mv1 M s)) }
def m_mk : Nat → Nat → vM → vM
  | _, 0, M => M
  | s, d + 1, M => m_mk (s + 1) d (m_m1 M s)
def m_bd : Nat → Nat → Int32 → vM → Int32 × vM
  | _, 0, a, M => (a, M)
  | s, d + 1, a, M => if M.1.2.1 21 s = true then m_bd (s + 1) d (a + bI (m_go M s).1) (m_go M s).2 else m_bd (s + 1) d a M
def m_z0 (M : vM) : vM := { M with fst.fst.fst := up1 M.1.1.1 0 0, fst.snd.snd.snd := fun _ => 0, fst.snd.snd.fst := fun q s => if q = 17 then 0 else if q = 18 then -1 else M.1.2.2.1 q s }
def m_b2 (x : Int32) (M : vM) : vM := m_mk 0 (M.1.1.2.1 2) (m_tk x (M.1.1.2.1 2) (m_z0 M))
theorem z_any_congr {p q : Nat → Bool} : ∀ (d k : Nat), (∀ i, k ≤ i → i < k + d → p i = q i) → z_any p k d = z_any q k d
  | 0, k, _ => rfl
  | d + 1, k, h => by
    simp only [z_any]
    rw [h k (by omega) (by omega), z_any_congr d (k + 1) (fun i h1 h2 => h i (by omega) (by omega))]
section
variable {b : Nat} {A : vA} {o : Int64} {L : gL}
theorem e_tk46 (x : Int32) (K7 : Nat → Int32 → Int32 → gV → Option (Unit × gV)) (K35 : Nat → Int32 → Int32 → Int32 → gV → Option (Unit × gV)) {s t : Nat} (hs : s < t) (ht : t < 16) : ∀ (d k n : Nat) (M : vM) (V : gV), RZ b A M o L V → WM M → k + d = M.2.1.2.1 9 t → d < n → ∃ V', D_M_take_46 L K7 K35 n (b + 5) x (nI s) (nI t) (nI k) V = K35 (b + 5) x (nI s) (nI (t + 1)) V' ∧ RZ b A { M with fst.snd.fst := up2 M.1.2.1 21 s (M.1.2.1 21 s || z_any (m_tp M t s) k d) } o L V' := by
  intro d
  induction d with
  | zero =>
    intro k n M V R W hk hn
    obtain ⟨n, rfl⟩ : ∃ n', n = n' + 1 := ⟨n - 1, by omega⟩
    have h6 := W.nr t
    refine ⟨V, ?_, R.ext ?_⟩
    · simp (disch := omega) only [D_M_take_46, R.r_mP, q_bd, R.r_mN, nI_lep, show M.2.1.2.1 9 t ≤ k by omega, if_true, nI_1]
    · intro p _
      cases p using zP_cas <;> simp only [zc, z_any, Bool.or_false]
      rename_i q u _
      congr 2
      unfold up2
      split
      · rename_i h; rw [h.1, h.2]
      · rfl
  | succ d ih =>
    intro k n M V R W hk hn
    obtain ⟨n, rfl⟩ : ∃ n', n = n' + 1 := ⟨n - 1, by omega⟩
    have h6 := W.nr t
    have hnk : ¬ M.2.1.2.1 9 t ≤ k := by omega
    have hv := W.rv t k ht (by omega)
    obtain ⟨V1, e1, R1⟩ := R.w_mZ (q := 21) (s := s) (by omega) (M.1.2.1 21 s || m_tp M t s k)
    obtain ⟨V2, e2, R2⟩ := ih (k + 1) n _ V1 R1 (W.of rfl rfl rfl) (show k + 1 + d = M.2.1.2.1 9 t by omega) (by omega)
    refine ⟨V2, ?_, R2.ext ?_⟩
    · rw [← e2]
      simp (disch := omega) only [D_M_take_46, D_M_take_106, R.r_mP, q_bd, q_b2, R.r_mN, R.r_mZ, nI_lep, hnk, if_false, bI_0, R.z_4, e_isFileRead R, decide_eq_false_iff_not, nI_m6, nI_add, R.r_mR, nI_eqp, nI_1]
      by_cases g1 : M.1.2.1 21 s = true
      · simp only [g1, Bool.true_or, bI_t] at e1
        simp only [g1, Bool.true_eq_false, if_false, e1, q_bd]
      · simp only [Bool.not_eq_true] at g1
        simp only [g1, Bool.false_or] at e1
        simp only [g1, if_true]
        by_cases g2 : M.1.2.1 21 t = true
        · by_cases g3 : M.2.1.2.2 11 t k = 2
          · simp only [m_tp, g2, g3, ne_eq, not_true_eq_false, false_and, decide_false, Bool.and_false, bI_f] at e1
            simp only [g2, g3, Bool.true_eq_false, if_false, not_true_eq_false, e1, q_bd]
          · by_cases g4 : M.2.1.2.2 10 t k = s
            · simp only [m_tp, g2, g3, g4, ne_eq, not_false_eq_true, and_self, decide_true, Bool.and_self, bI_t] at e1
              simp only [g2, g3, g4, Bool.true_eq_false, if_false, if_true, not_false_eq_true, e1, q_bd]
            · simp only [m_tp, g2, g3, g4, ne_eq, not_false_eq_true, and_false, decide_false, Bool.and_false, bI_f] at e1
              simp only [g2, g3, g4, Bool.true_eq_false, if_false, if_true, not_false_eq_true, e1, q_bd]
        · simp only [Bool.not_eq_true] at g2
          simp only [m_tp, g2, Bool.false_and, bI_f] at e1
          simp only [g2, if_true, e1, q_bd]
    · intro p _
      have ep : m_tp { M with fst.snd.fst := up2 M.1.2.1 21 s (M.1.2.1 21 s || m_tp M t s k) } t s = m_tp M t s := by
        funext i
        simp only [m_tp, up2, show ¬ t = s by omega, and_false, if_false]
      cases p using zP_cas <;> simp only [zc, ep]
      rename_i q u _
      congr 2
      by_cases g : q = 21 ∧ u = s
      · obtain ⟨rfl, rfl⟩ := g
        simp [up2, z_any, Bool.or_assoc]
      · simp only [up2, g, if_false]
theorem e_tk35 (x : Int32) (K7 : Nat → Int32 → Int32 → gV → Option (Unit × gV)) {s : Nat} : ∀ (d t n : Nat) (M : vM) (V : gV), RZ b A M o L V → WM M → s < t → t + d = M.1.1.2.1 2 → d < n → ∃ V', D_M_take_35 L K7 n (b + 5) x (nI s) (nI t) V = K7 (b + 5) x (nI s + (-1)) V' ∧ RZ b A { M with fst.snd.fst := up2 M.1.2.1 21 s (M.1.2.1 21 s || z_any (fun t => z_any (m_tp M t s) 0 (M.2.1.2.1 9 t)) t d) } o L V' := by
  intro d
  induction d with
  | zero =>
    intro t n M V R W hst hk hn
    obtain ⟨n, rfl⟩ : ∃ n', n = n' + 1 := ⟨n - 1, by omega⟩
    have h6 := W.ns
    refine ⟨V, ?_, R.ext ?_⟩
    · simp (disch := omega) only [D_M_take_35, R.r_mC, q_bd, nI_lep, show M.1.1.2.1 2 ≤ t by omega, if_true]
    · intro p _
      cases p using zP_cas <;> simp only [zc, z_any, Bool.or_false]
      rename_i q u _
      congr 2
      unfold up2
      split
      · rename_i h; rw [h.1, h.2]
      · rfl
  | succ d ih =>
    intro t n M V R W hst hk hn
    obtain ⟨n, rfl⟩ : ∃ n', n = n' + 1 := ⟨n - 1, by omega⟩
    have h6 := W.ns
    have h9 := W.nr t
    have hnk : ¬ M.1.1.2.1 2 ≤ t := by omega
    obtain ⟨V1, e1, R1⟩ := e_tk46 x K7 (D_M_take_35 L K7 n) (s := s) (t := t) hst (by omega) (M.2.1.2.1 9 t) 0 1000 M V R W (by omega) (by omega)
    obtain ⟨V2, e2, R2⟩ := ih (t + 1) n _ V1 R1 (W.of rfl rfl rfl) (by omega) (show t + 1 + d = M.1.1.2.1 2 by omega) (by omega)
    refine ⟨V2, ?_, R2.ext ?_⟩
    · rw [show nI 0 = (0 : Int32) from rfl] at e1
      simp (disch := omega) only [D_M_take_35, R.r_mC, q_bd, nI_lep, hnk, if_false, e1, e2]
    · intro p _
      have ep : z_any (fun u => z_any (m_tp { M with fst.snd.fst := up2 M.1.2.1 21 s (M.1.2.1 21 s || z_any (m_tp M t s) 0 (M.2.1.2.1 9 t)) } u s) 0 (M.2.1.2.1 9 u)) (t + 1) d = z_any (fun u => z_any (m_tp M u s) 0 (M.2.1.2.1 9 u)) (t + 1) d := by
        refine z_any_congr _ _ fun u h1 _ => ?_
        congr 1
        funext i
        simp only [m_tp, up2, show ¬ u = s by omega, and_false, if_false]
      cases p using zP_cas <;> simp only [zc, ep]
      rename_i q u _
      congr 2
      by_cases g : q = 21 ∧ u = s
      · obtain ⟨rfl, rfl⟩ := g
        simp [up2, z_any, Bool.or_assoc]
      · simp only [up2, g, if_false]
theorem e_tk7 (x : Int32) : ∀ (s n : Nat) (M : vM) (V : gV), RZ b A M o L V → WM M → s ≤ M.1.1.2.1 2 → s < n → ∃ V', D_M_take_7 L n (b + 5) x (nI s + (-1)) V = some ((), V') ∧ RZ b A (m_tk x s M) o L V' := by
  intro s
  induction s with
  | zero =>
    intro n M V R W hs hn
    obtain ⟨n, rfl⟩ : ∃ n', n = n' + 1 := ⟨n - 1, by omega⟩
    refine ⟨V, ?_, R⟩
    simp only [D_M_take_7, show (nI 0 + (-1) : Int32) < 0 by decide, if_true]
  | succ s ih =>
    intro n M V R W hs hn
    obtain ⟨n, rfl⟩ : ∃ n', n = n' + 1 := ⟨n - 1, by omega⟩
    have h6 := W.ns
    obtain ⟨V1, e1, R1⟩ := R.w_mZ (q := 21) (s := s) (by omega) (z_bit x s)
    obtain ⟨V2, e2, R2⟩ := e_tk35 x (D_M_take_7 L n) (s := s) (M.1.1.2.1 2 - (s + 1)) (s + 1) 1000 _ V1 R1 (W.of rfl rfl rfl) (by omega) (show s + 1 + (M.1.1.2.1 2 - (s + 1)) = M.1.1.2.1 2 by omega) (by omega)
    have R2' : RZ b A (m_t1 x M s) o L V2 := by
      refine R2.ext ?_
      intro p _
      have ep : z_any (fun u => z_any (m_tp { M with fst.snd.fst := up2 M.1.2.1 21 s (z_bit x s) } u s) 0 (M.2.1.2.1 9 u)) (s + 1) (M.1.1.2.1 2 - (s + 1)) = z_any (fun u => z_any (m_tp M u s) 0 (M.2.1.2.1 9 u)) (s + 1) (M.1.1.2.1 2 - (s + 1)) := by
        refine z_any_congr _ _ fun u h1 _ => ?_
        congr 1
        funext i
        simp only [m_tp, up2, show ¬ u = s by omega, and_false, if_false]
      cases p using zP_cas <;> simp only [zc, ep, m_t1]
      rename_i q u _
      congr 2
      by_cases g : q = 21 ∧ u = s
      · obtain ⟨rfl, rfl⟩ := g
        simp [up2]
      · simp only [up2, g, if_false]
    obtain ⟨V3, e3, R3⟩ := ih n _ V2 R2' (W.of rfl rfl rfl) (show s ≤ M.1.1.2.1 2 by omega) (by omega)
    refine ⟨V3, ?_, R3⟩
    rw [← e3, ← e2]
    simp (disch := omega) only [D_M_take_7, pk_m1, nI_lt0, if_false, R.r_mP, q_bd, nI_1]
    by_cases g : ((x >>> (nI s &&& 31)) &&& 1) = 1
    · simp only [z_bit, g, decide_true, bI_t] at e1
      simp only [g, if_true, e1, q_bd]
    · simp only [z_bit, g, decide_false, bI_f] at e1
      simp only [g, if_false, e1, q_bd]
theorem e_take {M : vM} {V : gV} (R : RZ b A M o L V) (W : WM M) (x : Int32) : ∃ V', D_M_take (b + 5) x L V = some ((), V') ∧ RZ b A (m_tk x (M.1.1.2.1 2) M) o L V' := by
  have h6 := W.ns
  obtain ⟨V1, e1, R1⟩ := e_tk7 x (M.1.1.2.1 2) 1000 M V R W (Nat.le_refl _) (by omega)
  refine ⟨V1, ?_, R1⟩
  simp (disch := omega) only [D_M_take, R.r_mC, q_bd]
  rw [show nI (M.1.1.2.1 2) - 1 = nI (M.1.1.2.1 2) + (-1) from Int32.sub_eq_add_neg _ _]
  exact e1
end
