def a_rn (A : vA) (s : Nat) : vA := { A with snd.snd.snd.snd.fst := fun c j i => if c = s ∧ j = A.2.2.1.1 s 3 ∧ i < A.2.1.1.2 3 s then a_th A s i else A.2.2.2.2.1 c j i, snd.snd.snd.snd.snd := fun c j i => if c = s ∧ j = A.2.2.1.1 s 3 ∧ i < A.2.1.1.2 3 s then a_va A s i else A.2.2.2.2.2 c j i }
def a_sm (A : vA) (s j : Nat) : Int64 := z_sum (A.2.2.2.2.2 s j) 0 (A.2.1.1.2 3 s) 17
def a_fo (A : vA) (s j : Nat) : vA := { A with snd.snd.snd.fst := up3 (up3 A.2.2.2.1 4 s j (a_sm A s j)) 3 s j (a_sm A s j &&& A.2.1.1.1 0 s), snd.snd.fst.snd := up2 A.2.2.1.2 s j (m_fl (A.2.2.2.2.1 s j) (A.2.1.1.2 3 s) (A.2.1.1.1 1 s) (a_sm A s j)) }
def z_pf (f : Nat → Nat) (p x : Nat) : Nat → Nat := fun k => if k = 0 then x else if k ≤ p then f (k - 1) else f k
def a_bf (A : vA) (s p x : Nat) : vA := { A with snd.snd.fst.fst := fun c => if c = s then z_pf (A.2.2.1.1 s) p x else A.2.2.1.1 c }
def a_ru (A : vA) (s k : Nat) : vA := { a_bf A s k (A.2.2.1.1 s k) with snd.fst.snd.snd.fst := up2 A.2.1.2.2.1 9 s (if A.2.2.1.2 s (A.2.2.1.1 s k) = -1 then (if k = 0 then 1 else 6) else 4) }
section
variable {b : Nat} {M : vM} {o : Int64} {L : gL}
theorem a_rn7 {s : Nat} : ∀ (d k n : Nat) (A : vA) (V : gV), RZ b A M o L V → WA A → s < A.1.1.1.2 → k + d = A.2.1.1.2 3 s → d < n → ∃ V', D_A_readNow_7 L n b (A.1.1.2.2.1 s) (some (A.1.1.2.2.1 s + 3 + 3 * A.2.2.1.1 s 3)) (nI k) V = some (some (A.1.1.2.2.1 s + 3 + 3 * A.2.2.1.1 s 3), V') ∧ RZ b { A with snd.snd.snd.snd.fst := fun c j i => if c = s ∧ j = A.2.2.1.1 s 3 ∧ k ≤ i ∧ i < A.2.1.1.2 3 s then a_th A s i else A.2.2.2.2.1 c j i, snd.snd.snd.snd.snd := fun c j i => if c = s ∧ j = A.2.2.1.1 s 3 ∧ k ≤ i ∧ i < A.2.1.1.2 3 s then a_va A s i else A.2.2.2.2.2 c j i } M o L V' := by
  intro d
  induction d with
  | zero =>
    intro k n A V R W hs hk hn
    obtain ⟨n, rfl⟩ : ∃ n', n = n' + 1 := ⟨n - 1, by omega⟩
    have h6 := W.nr s hs
    refine ⟨V, ?_, R.exA rfl rfl rfl rfl ?_⟩
    · simp (disch := omega) only [D_A_readNow_7, R.r_sN, q_bd, nI_lep, show A.2.1.1.2 3 s ≤ k by omega, if_true]
    · intro p _
      cases p using zP_cas <;> simp only [zc]
      all_goals rw [if_neg (by omega)]
  | succ d ih =>
    intro k n A V R W hs hk hn
    obtain ⟨n, rfl⟩ : ∃ n', n = n' + 1 := ⟨n - 1, by omega⟩
    have h6 := W.nr s hs
    have hp := W.pm s 3 hs (by omega)
    obtain ⟨V1, e1, R1⟩ := R.w_eH (s := s) (j := A.2.2.1.1 s 3) (i := k) (by omega) (a_th A s k)
    have W1 : WA { A with snd.snd.snd.snd.fst := up3 A.2.2.2.2.1 s (A.2.2.1.1 s 3) k (a_th A s k) } := W.of rfl rfl rfl rfl rfl
    have ev : D_A_valueNow b (nI (A.2.1.2.2.2 s k)) L V1 = some (a_va A s k, V1) := a_valueNow R1 W1 (s := s) (i := k) hs (show k < A.2.1.1.2 3 s by omega)
    have ep : g_rR L V1 0 (A.1.1.2.2.1 s + 3 + 3 * A.2.2.1.1 s 3) 1 = some (some (A.1.1.2.2.1 s + 4 + 3 * A.2.2.1.1 s 3 + 1)) := R1.r_eP (x := 1) (s := s) (j := A.2.2.1.1 s 3) ⟨hs, hp, by omega⟩
    have eq : g_rR L V1 2 (A.1.1.2.2.1 s) 2 = some (some (A.1.1.2.2.1 s + 1)) := R1.r_sP2 hs
    have er : g_aI L V1 100 (A.1.1.2.2.1 s + 1) (nI k) = some (nI (A.2.1.2.2.2 s k)) := R1.r_sr (s := s) (i := k) ⟨hs, by omega⟩
    obtain ⟨V2, e2, R2⟩ := R1.w_eW (s := s) (j := A.2.2.1.1 s 3) (i := k) ⟨hs, hp, by omega⟩ (a_va A s k)
    replace e2 : g_wa L V1 101 (A.1.1.2.2.1 s + 4 + 3 * A.2.2.1.1 s 3 + 1) (nI k) (tJ (a_va A s k)) = some V2 := e2
    obtain ⟨V3, e3, R3⟩ := ih (k + 1) n _ V2 R2 (W.of rfl rfl rfl rfl rfl) hs (show k + 1 + d = A.2.1.1.2 3 s by omega) (by omega)
    refine ⟨V3, ?_, R3.exA rfl rfl rfl rfl ?_⟩
    · simp (disch := omega) only [D_A_readNow_7, R.r_sN, R.r_eP, R.r_sP2, R.r_sr, q_bd, q_b2, nI_lep, show ¬ A.2.1.1.2 3 s ≤ k by omega, if_false, R.z_3, a_isThereNow R W hs, q_bz, e1, ep, eq, er, ev, e2, nI_1]
      exact e3
    · intro p _
      have eth : ∀ u v, a_th { A with snd.snd.snd.snd.fst := u, snd.snd.snd.snd.snd := v } s = a_th A s := fun _ _ => rfl
      have eva : ∀ u v, a_va { A with snd.snd.snd.snd.fst := u, snd.snd.snd.snd.snd := v } s = a_va A s := fun _ _ => rfl
      cases p using zP_cas <;> simp only [zc, eth, eva]
      all_goals
        rename_i c r i _
        congr 1
        by_cases h1 : c = s ∧ r = A.2.2.1.1 s 3
        · obtain ⟨rfl, rfl⟩ := h1
          by_cases h2 : k + 1 ≤ i ∧ i < A.2.1.1.2 3 c
          · simp [h2, show k ≤ i by omega]
          · by_cases h3 : i = k
            · subst h3; simp [up3, show i < A.2.1.1.2 3 c by omega]
            · simp only [true_and, h2, if_false, show ¬ (k ≤ i ∧ i < A.2.1.1.2 3 c) by omega, up3, h3]
        · have g1 : ¬ (c = s ∧ r = A.2.2.1.1 s 3 ∧ k + 1 ≤ i ∧ i < A.2.1.1.2 3 s) := fun q => h1 ⟨q.1, q.2.1⟩
          have g2 : ¬ (c = s ∧ r = A.2.2.1.1 s 3 ∧ k ≤ i ∧ i < A.2.1.1.2 3 s) := fun q => h1 ⟨q.1, q.2.1⟩
          have g3 : ¬ (c = s ∧ r = A.2.2.1.1 s 3 ∧ i = k) := fun q => h1 ⟨q.1, q.2.1⟩
          simp only [g1, g2, g3, if_false, up3]
theorem a_readNow {s : Nat} {A : vA} {V : gV} (R : RZ b A M o L V) (W : WA A) (hs : s < A.1.1.1.2) : ∃ V', D_A_readNow b (A.1.1.2.2.1 s) L V = some (some (A.1.1.2.2.1 s + 3 + 3 * A.2.2.1.1 s 3), V') ∧ RZ b (a_rn A s) M o L V' := by
  have h6 := W.nr s hs
  obtain ⟨V1, e1, R1⟩ := a_rn7 (s := s) (A.2.1.1.2 3 s) 0 1000 A V R W hs (by omega) (by omega)
  refine ⟨V1, ?_, ?_⟩
  · simp only [D_A_readNow, R.z_2 hs, q_bd, a_spareEntry R hs, q_b2]
    exact e1
  · simp only [Nat.zero_le, true_and] at R1
    exact R1
theorem a_fo7 {s j : Nat} {A : vA} {V : gV} (R : RZ b A M o L V) (W : WA A) (hs : s < A.1.1.1.2) (hj : j < 4) : ∀ (d k n : Nat) (a : Int64), k + d = A.2.1.1.2 3 s → d < n → ∃ V', D_T_fillOutcome_7 L n (A.1.1.2.2.1 s) (A.1.1.2.2.1 s + 3 + 3 * j) a (nI k) V = some ((), V') ∧ RZ b { A with snd.snd.snd.fst := up3 (up3 A.2.2.2.1 4 s j (z_sum (A.2.2.2.2.2 s j) k d a)) 3 s j (z_sum (A.2.2.2.2.2 s j) k d a &&& A.2.1.1.1 0 s), snd.snd.fst.snd := up2 A.2.2.1.2 s j (m_fl (A.2.2.2.2.1 s j) (A.2.1.1.2 3 s) (A.2.1.1.1 1 s) (z_sum (A.2.2.2.2.2 s j) k d a)) } M o L V' := by
  have h6 := W.nr s hs
  intro d
  induction d with
  | zero =>
    intro k n a hk hn
    obtain ⟨n, rfl⟩ : ∃ n', n = n' + 1 := ⟨n - 1, by omega⟩
    obtain ⟨V1, e1, R1⟩ := R.w_eJ (x := 4) (s := s) (j := j) (by omega) a
    obtain ⟨V2, e2, R2⟩ := R1.w_eJ (x := 3) (s := s) (j := j) ⟨hs, hj, by omega⟩ (a &&& A.2.1.1.1 0 s)
    replace e2 : g_wr L V1 0 (A.1.1.2.2.1 s + 3 + 3 * j) 3 (tJ (a &&& A.2.1.1.1 0 s)) = some V2 := e2
    replace R2 : RZ b { A with snd.snd.snd.fst := up3 (up3 A.2.2.2.1 4 s j a) 3 s j (a &&& A.2.1.1.1 0 s) } M o L V2 := R2
    have r1 : g_rJ L V1 2 (A.1.1.2.2.1 s) 0 = some (A.2.1.1.1 0 s) := R1.r_sJ (j := 0) (s := s) ⟨hs, by omega⟩
    have r2 : g_rI L V2 2 (A.1.1.2.2.1 s) 3 = some (nI (A.2.1.1.2 3 s)) := R2.r_sN (j := 3) (s := s) ⟨hs, by omega⟩
    have fm : D_N_firstMissing (A.1.1.2.2.1 s + 3 + 3 * j) (nI (A.2.1.1.2 3 s)) L V2 = some (oI (z_fst (fun i => !(A.2.2.2.2.1 s j i)) 0 (A.2.1.1.2 3 s)), V2) := a_firstMissing R2 hs hj h6
    have z0 : L.2 0 (A.1.1.2.2.1 s + 3 + 3 * j) = some 5 := R.z_0 ⟨hs, hj⟩
    obtain ⟨f, hf⟩ : ∃ f, z_fst (fun i => !(A.2.2.2.2.1 s j i)) 0 (A.2.1.1.2 3 s) = f := ⟨_, rfl⟩
    obtain ⟨V3, e3, R3⟩ := R2.w_eI (s := s) (j := j) ⟨hs, hj⟩ (oI f)
    replace e3 : g_wr L V2 0 (A.1.1.2.2.1 s + 3 + 3 * j) 2 (tI (oI f)) = some V3 := e3
    replace R3 : RZ b { A with snd.snd.snd.fst := up3 (up3 A.2.2.2.1 4 s j a) 3 s j (a &&& A.2.1.1.1 0 s), snd.snd.fst.snd := up2 A.2.2.1.2 s j (oI f) } M o L V3 := R3
    have r3 : g_rI L V3 0 (A.1.1.2.2.1 s + 3 + 3 * j) 2 = some (oI f) := by
      refine (R3.r_eI (s := s) (j := j) ⟨hs, hj⟩).trans ?_
      simp [up2]
    have r4 : g_rJ L V3 2 (A.1.1.2.2.1 s) 1 = some (A.2.1.1.1 1 s) := R3.r_sJ (j := 1) (s := s) ⟨hs, by omega⟩
    simp (disch := omega) only [D_T_fillOutcome_7, R.r_sN, q_bd, q_b2, nI_lep, show A.2.1.1.2 3 s ≤ k by omega, if_true, e1, r1, e2, r2, z0, fm, hf, e3, r3, r4, lg_cmp_eq, z_sum]
    have done : ∀ x, x = oI f → ∃ V', some ((), V3) = some ((), V') ∧ RZ b { A with snd.snd.snd.fst := up3 (up3 A.2.2.2.1 4 s j a) 3 s j (a &&& A.2.1.1.1 0 s), snd.snd.fst.snd := up2 A.2.2.1.2 s j x } M o L V' := fun x hx => ⟨V3, rfl, by rw [hx]; exact R3⟩
    cases f with
    | some i =>
      have := (z_fst_lt _ _ _ _ hf).2.1
      simp (disch := omega) only [oI, z_nm1, if_false]
      exact done _ (by simp [m_fl, hf, oI])
    | none =>
      simp only [oI, if_true]
      by_cases g0 : A.2.1.1.1 1 s = 0
      · simp only [g0, if_true]
        exact done _ (by simp [m_fl, hf, oI])
      · simp only [g0, if_false]
        by_cases g1 : a - a / A.2.1.1.1 1 s * A.2.1.1.1 1 s = 0
        · simp only [g1, if_true]
          obtain ⟨V4, e4, R4⟩ := R3.w_eI (s := s) (j := j) ⟨hs, hj⟩ 6
          replace e4 : g_wr L V3 0 (A.1.1.2.2.1 s + 3 + 3 * j) 2 (tI 6) = some V4 := e4
          refine ⟨V4, by rw [e4, q_bd], R4.exA rfl rfl rfl rfl ?_⟩
          intro p _
          cases p using zP_cas <;> simp only [zc]
          rename_i c r _
          congr 1
          by_cases g : c = s ∧ r = j
          · simp [up2, g, m_fl, hf, g0, g1]
          · simp only [up2, g, if_false]
        · simp only [g1, if_false]
          exact done _ (by simp [m_fl, hf, oI, g1])
  | succ d ih =>
    intro k n a hk hn
    obtain ⟨n, rfl⟩ : ∃ n', n = n' + 1 := ⟨n - 1, by omega⟩
    obtain ⟨V1, e1, R1⟩ := ih (k + 1) n (31 * a + A.2.2.2.2.2 s j k) (by omega) (by omega)
    refine ⟨V1, ?_, R1⟩
    simp (disch := omega) only [D_T_fillOutcome_7, R.r_sN, q_bd, nI_lep, show ¬ A.2.1.1.2 3 s ≤ k by omega, if_false, R.r_eP, R.r_eW, nI_1, e1]
theorem a_fillOutcome {s j : Nat} {A : vA} {V : gV} (R : RZ b A M o L V) (W : WA A) (hs : s < A.1.1.1.2) (hj : j < 4) : ∃ V', D_T_fillOutcome (A.1.1.2.2.1 s) (A.1.1.2.2.1 s + 3 + 3 * j) L V = some ((), V') ∧ RZ b (a_fo A s j) M o L V' := by
  have h6 := W.nr s hs
  exact a_fo7 R W hs hj (A.2.1.1.2 3 s) 0 1000 17 (by omega) (by omega)
theorem a_bf9 {s x : Nat} (hx : x < 4) : ∀ (p n : Nat) (A : vA) (V : gV), RZ b A M o L V → WA A → s < A.1.1.1.2 → p < 4 → p < n → ∃ V', D_T_bringFirst_9 L n (A.1.1.2.2.1 s) (some (A.1.1.2.2.1 s + 3 + 3 * x)) (nI p) V = some ((), V') ∧ RZ b (a_bf A s p x) M o L V' := by
  intro p
  induction p with
  | zero =>
    intro n A V R W hs hp hn
    obtain ⟨n, rfl⟩ : ∃ n', n = n' + 1 := ⟨n - 1, by omega⟩
    obtain ⟨V1, e1, R1⟩ := R.w_se (s := s) (k := 0) (by omega) x
    rw [show nI 0 = (0 : Int32) from rfl] at e1
    refine ⟨V1, ?_, R1.exA rfl rfl rfl rfl ?_⟩
    · simp (disch := omega) only [D_T_bringFirst_9, nI_le0, Nat.le_refl, if_true, R.r_sP4, q_bd, R.z_0, e1]
    · intro q _
      cases q using zP_cas <;> simp only [zc, a_bf]
      rename_i c k _
      congr 4
      by_cases hc : c = s
      · subst hc
        by_cases hk : k = 0
        · subst hk; simp [up2, z_pf]
        · simp [up2, z_pf, hk]
      · simp [up2, hc]
  | succ p ih =>
    intro n A V R W hs hp hn
    obtain ⟨n, rfl⟩ : ∃ n', n = n' + 1 := ⟨n - 1, by omega⟩
    have hq := W.pm s p hs (by omega)
    obtain ⟨V1, e1, R1⟩ := R.w_se (s := s) (k := p + 1) (by omega) (A.2.2.1.1 s p)
    have W1 : WA { A with snd.snd.fst.fst := up2 A.2.2.1.1 s (p + 1) (A.2.2.1.1 s p) } := ⟨W.nf, W.ns, W.nr, W.nc, W.rd, fun c k hc hk => by
      show up2 A.2.2.1.1 s (p + 1) (A.2.2.1.1 s p) c k < 4
      unfold up2
      split
      · exact hq
      · exact W.pm c k hc hk⟩
    obtain ⟨V2, e2, R2⟩ := ih n _ V1 R1 W1 hs (by omega) (by omega)
    refine ⟨V2, ?_, R2.exA rfl rfl rfl rfl ?_⟩
    · rw [← e2]
      simp (disch := omega) only [D_T_bringFirst_9, nI_le0, show ¬ p + 1 ≤ 0 by omega, if_false, R.r_sP4, q_bd, nI_p1, R.r_se, R.z_0, e1, pk_m1]
    · intro q _
      cases q using zP_cas <;> simp only [zc, a_bf]
      rename_i c k _
      congr 4
      by_cases hc : c = s
      · subst hc
        simp only [if_true, z_pf, up2, true_and]
        by_cases hk : k = 0
        · simp [hk]
        · by_cases h1 : k ≤ p
          · simp [hk, h1, show k ≤ p + 1 by omega, show ¬ k - 1 = p + 1 by omega]
          · by_cases h2 : k = p + 1
            · subst h2; simp
            · simp [hk, h1, h2, show ¬ k ≤ p + 1 by omega]
      · simp [up2, hc]
theorem WA.bf {A : vA} (W : WA A) {s p x : Nat} (hx : x < 4) (hp : p < 4) : WA (a_bf A s p x) := ⟨W.nf, W.ns, W.nr, W.nc, W.rd, fun c k hc hk => by
  show (if c = s then z_pf (A.2.2.1.1 s) p x else A.2.2.1.1 c) k < 4
  by_cases h : c = s
  · subst h
    rw [if_pos rfl]
    unfold z_pf
    split
    · exact hx
    · split
      · exact W.pm _ _ hc (by omega)
      · exact W.pm _ _ hc hk
  · rw [if_neg h]; exact W.pm c k hc hk⟩
theorem a_bringFirst {s p : Nat} {A : vA} {V : gV} (R : RZ b A M o L V) (W : WA A) (hs : s < A.1.1.1.2) (hp : p < 4) : ∃ V', D_T_bringFirst (A.1.1.2.2.1 s) (nI p) L V = some ((), V') ∧ RZ b (a_bf A s p (A.2.2.1.1 s p)) M o L V' := by
  obtain ⟨V1, e1, R1⟩ := a_bf9 (x := A.2.2.1.1 s p) (W.pm s p hs hp) p 1000 A V R W hs hp (by omega)
  refine ⟨V1, ?_, R1⟩
  simp (disch := omega) only [D_T_bringFirst, R.r_sP4, R.r_se, q_bd, e1]
theorem a_reuse {s k : Nat} {A : vA} {V : gV} (R : RZ b A M o L V) (W : WA A) (hs : s < A.1.1.1.2) (hk : k < 3) : ∃ V', D_T_reuse (A.1.1.2.2.1 s) (nI k) L V = some ((), V') ∧ RZ b (a_ru A s k) M o L V' := by
  have hp := W.pm s k hs (by omega)
  obtain ⟨V1, e1, R1⟩ := a_bringFirst R W hs (p := k) (by omega)
  have e0 : g_aR L V1 105 (A.1.1.2.2.1 s + 2) (0 : Int32) = some (some (A.1.1.2.2.1 s + 3 + 3 * A.2.2.1.1 s k)) := by
    refine (R1.r_e0 (s := s) hs).trans ?_
    simp [a_bf, z_pf]
  have e2 : g_rR L V1 2 (A.1.1.2.2.1 s) 4 = some (some (A.1.1.2.2.1 s + 2)) := R1.r_sP4 hs
  have e3 : D_N_hasFailed (A.1.1.2.2.1 s + 3 + 3 * A.2.2.1.1 s k) L V1 = some (bI (decide (A.2.2.1.2 s (A.2.2.1.1 s k) ≠ -1)), V1) := a_hasFailed R1 (s := s) (j := A.2.2.1.1 s k) hs hp
  obtain ⟨V2, e4, R2⟩ := R1.w_sI (j := 9) (s := s) ⟨hs, by omega⟩ (if A.2.2.1.2 s (A.2.2.1.1 s k) = -1 then (if k = 0 then 1 else 6) else 4)
  replace e4 : g_wr L V1 2 (A.1.1.2.2.1 s) 9 (tI (if A.2.2.1.2 s (A.2.2.1.1 s k) = -1 then (if k = 0 then 1 else 6) else 4)) = some V2 := e4
  refine ⟨V2, ?_, R2⟩
  simp (disch := omega) only [D_T_reuse, R.z_2, q_bd, e1, q_b2, e2, e0, R.z_0, e3, bI_0, decide_eq_false_iff_not, nI_e0]
  by_cases g : A.2.2.1.2 s (A.2.2.1.1 s k) = -1
  · rw [if_pos (not_not_intro g)]
    by_cases h0 : k = 0
    · rw [if_pos g, if_pos h0] at e4
      rw [if_pos h0, e4, q_bd]
    · rw [if_pos g, if_neg h0] at e4
      rw [if_neg h0, e4, q_bd]
  · rw [if_neg g] at e4
    rw [if_neg (not_not_intro g), e4, q_bd]
end
