def z_or (a c : Option Nat) : Option Nat := match a with
  | some j => some j
  | none => c
theorem z_all_fst (p : Nat → Bool) : ∀ (d k : Nat), z_all p k d = (z_fst (fun i => !(p i)) k d).isNone
  | 0, k => rfl
  | d + 1, k => by
    simp only [z_all, z_fst, z_all_fst p d (k + 1)]
    by_cases h : p k = true <;> simp [h]
theorem z_fst_lt (p : Nat → Bool) : ∀ (d k j : Nat), z_fst p k d = some j → k ≤ j ∧ j < k + d ∧ p j = true
  | 0, k, j, h => by cases h
  | d + 1, k, j, h => by
    simp only [z_fst] at h
    by_cases hp : p k = true
    · rw [if_pos hp] at h
      cases h
      exact ⟨by omega, by omega, hp⟩
    · rw [if_neg hp] at h
      obtain ⟨h1, h2, h3⟩ := z_fst_lt p d (k + 1) j h
      exact ⟨by omega, by omega, h3⟩
def m_ca (M : vM) (s : Nat) : Nat := if M.2.1.2.1 12 s = 0 then 0 else if M.1.2.1 7 s = true then 1 else match z_fst (fun i => !(m_as M s 0 i)) 0 (M.2.1.2.1 9 s) with
  | some i => if M.2.1.2.2 11 s i = 2 then 2 else 3
  | none => 0
theorem m_ca_lt (M : vM) (s : Nat) : m_ca M s < 4 := by
  unfold m_ca
  split
  · omega
  · split
    · omega
    · split
      · split <;> omega
      · omega
def m_fl (th : Nat → Bool) (n : Nat) (mo su : Int64) : Int32 := if z_fst (fun i => !(th i)) 0 n = none ∧ mo ≠ 0 ∧ su - su / mo * mo = 0 then 6 else oI (z_fst (fun i => !(th i)) 0 n)
def m_wl (M : vM) (s : Nat) : Nat := match m_mt M s with
  | some k => k
  | none => if 3 ≤ M.2.1.2.1 12 s then 2 else M.2.1.2.1 12 s
def m_wc (M : vM) (s : Nat) : Nat := match m_mt M s with
  | some _ => M.2.1.2.1 12 s
  | none => if 3 ≤ M.2.1.2.1 12 s then M.2.1.2.1 12 s else M.2.1.2.1 12 s + 1
def m_wm (M : vM) (s : Nat) : vM := m_mv s (m_wl M s) { M with snd.fst.snd.fst := up2 M.2.1.2.1 12 s (m_wc M s) }
def m_wk (M : vM) (s : Nat) : vM := { m_wm M s with
  snd.snd.snd.fst := fun c r i => if c = s ∧ r = 0 ∧ i < M.2.1.2.1 9 s then m_va (m_wm M s) s i else (m_wm M s).2.2.2.1 c r i
  snd.snd.snd.snd := fun c r i => if c = s ∧ r = 0 ∧ i < M.2.1.2.1 9 s then m_th M s i else (m_wm M s).2.2.2.2 c r i
  snd.snd.fst.snd := up2 (m_wm M s).2.2.1.2 s 0 (z_sum (m_va (m_wm M s) s) 0 (M.2.1.2.1 9 s) 17)
  snd.snd.fst.fst := up2 (m_wm M s).2.2.1.1 s 0 (m_fl (m_th M s) (M.2.1.2.1 9 s) (M.1.1.2.2 5 s) (z_sum (m_va (m_wm M s) s) 0 (M.2.1.2.1 9 s) 17)) }
def m_cm (M : vM) (s : Nat) (had : Bool) (f y : Int64) (dn : Bool) : vM := if (had && m_ho M s) = true then
    { M with fst.snd.snd.snd := up1 (up1 M.1.2.2.2 1 (M.1.2.2.2 1 + bI (decide (m_pt M s 1 = y ∧ m_pt M s 0 = f)))) 2 (M.1.2.2.2 2 + bI (!(decide (m_pt M s 1 = y ∧ m_pt M s 0 = f)) && decide (m_pt M s 0 = f))), fst.fst.fst := up1 M.1.1.1 23 (M.1.1.1 23 + bI (decide (m_pt M s 1 = y ∧ m_pt M s 0 = f) && dn)) } else M
def m_bM (M : vM) (s k : Nat) : vM := { m_br M s k with fst.snd.fst := M.1.2.1, fst.snd.snd.fst := up2 M.1.2.2.1 17 s (if m_ho (m_br M s k) s = false then 4 else if k = 0 then 1 else 6), fst.snd.snd.snd := up1 M.1.2.2.2 0 (M.1.2.2.2 0 + bI (M.1.2.1 22 s)) }
def m_r1 (M : vM) (s : Nat) : vM := { M with fst.snd.snd.fst := up2 M.1.2.2.1 18 s (nI (m_ca M s)), snd.fst.fst := up1 M.2.1.1 (m_ca M s) (M.2.1.1 (m_ca M s) + 1), fst.fst.fst := up1 M.1.1.1 24 (M.1.1.1 24 + 1), fst.snd.fst := up2 M.1.2.1 7 s false }
def m_rM (M : vM) (s : Nat) : vM := { m_wk (m_r1 M s) s with fst.snd.snd.fst := up2 (m_r1 M s).1.2.2.1 17 s (if m_ho (m_wk (m_r1 M s) s) s = true then 2 else 3) }
def m_of (M : vM) (s p : Nat) : Int64 := if m_ho M s = true then m_pt M s p else 0
section
variable {b : Nat} {A : vA} {o : Int64} {L : gL}
theorem e_ca24 {M : vM} {V : gV} (R : RZ b A M o L V) (W : WM M) {s : Nat} (hs : s < 16) : ∀ (d k n i : Nat), k + d = M.2.1.2.1 9 s → d < n → z_fst (fun i => !(m_as M s 0 i)) k d = some i → D_M_causeOf_24 L n (b + 5) (nI s) (nI k) V = some (nI (if M.2.1.2.2 11 s i = 2 then 2 else 3), V) := by
  have h6 := W.nr s
  intro d
  induction d with
  | zero => intro k n i _ _ h; cases h
  | succ d ih =>
    intro k n i hk hn hz
    obtain ⟨n, rfl⟩ : ∃ n', n = n' + 1 := ⟨n - 1, by omega⟩
    simp only [z_fst] at hz
    have hv := W.rv s k hs (by omega)
    simp (disch := omega) only [D_M_causeOf_24, q_bd, q_b2, R.z_4, e_isAsWas0 R W, e_isFileRead R, bI_0, decide_eq_false_iff_not, nI_1]
    by_cases ha : m_as M s 0 k = true
    · simp only [ha, Bool.not_true, if_false, Bool.false_eq_true] at hz
      simp only [ha, Bool.true_eq_false, if_false]
      exact ih (k + 1) n i (by omega) (by omega) hz
    · simp only [Bool.not_eq_true] at ha
      simp only [ha, Bool.not_false, if_true] at hz
      cases hz
      simp only [ha, if_true]
      by_cases h2 : M.2.1.2.2 11 s k = 2 <;> simp [h2] <;> rfl
theorem e_causeOf {M : vM} {V : gV} (R : RZ b A M o L V) (W : WM M) {s : Nat} (hs : s < 16) (hm : M.1.2.1 7 s = true ∨ m_mt M s = none) : D_M_causeOf (b + 5) (nI s) L V = some (nI (m_ca M s), V) := by
  have h6 := W.nr s
  have h3 := W.nc s
  simp (disch := omega) only [D_M_causeOf, q_bd, R.r_mP, R.r_mN, R.r_mZ, nI_e0, bI_0, m_ca]
  by_cases h0 : M.2.1.2.1 12 s = 0
  · simp [h0]; rfl
  · by_cases hf : M.1.2.1 7 s = true
    · simp [h0, hf]; rfl
    · have hm : m_mt M s = none := hm.resolve_left hf
      simp only [Bool.not_eq_true] at hf
      simp only [h0, hf, if_true, if_false, Bool.false_eq_true]
      cases hz : z_fst (fun i => !(m_as M s 0 i)) 0 (M.2.1.2.1 9 s) with
      | none =>
        have ha : z_all (m_as M s 0) 0 (M.2.1.2.1 9 s) = true := by rw [z_all_fst, hz]; rfl
        unfold m_mt at hm
        obtain ⟨c, hc⟩ : ∃ c, M.2.1.2.1 12 s = c + 1 := ⟨M.2.1.2.1 12 s - 1, by omega⟩
        rw [hc] at hm
        simp [z_fst, ha] at hm
      | some i => exact e_ca24 R W hs (M.2.1.2.1 9 s) 0 1000 i (by omega) (by omega) hz
theorem e_wk82 {s : Nat} (hs : s < 16) : ∀ (d k n : Nat) (a : Int64) (f : Option Nat) (M : vM) (V : gV), RZ b A M o L V → WM M → k + d = M.2.1.2.1 9 s → d < n → (∀ j, f = some j → j < 6) → ∃ V', D_M_work_82 L n (b + 5) (nI s) a (oI f) (nI k) V = some ((), V') ∧ RZ b A { M with
    snd.snd.snd.fst := fun c r i => if c = s ∧ r = 0 ∧ k ≤ i ∧ i < M.2.1.2.1 9 s then m_va M s i else M.2.2.2.1 c r i
    snd.snd.snd.snd := fun c r i => if c = s ∧ r = 0 ∧ k ≤ i ∧ i < M.2.1.2.1 9 s then m_th M s i else M.2.2.2.2 c r i
    snd.snd.fst.snd := up2 M.2.2.1.2 s 0 (z_sum (m_va M s) k d a)
    snd.snd.fst.fst := up2 M.2.2.1.1 s 0 (if z_or f (z_fst (fun i => !(m_th M s i)) k d) = none ∧ M.1.1.2.2 5 s ≠ 0 ∧ z_sum (m_va M s) k d a - z_sum (m_va M s) k d a / M.1.1.2.2 5 s * M.1.1.2.2 5 s = 0 then 6 else oI (z_or f (z_fst (fun i => !(m_th M s i)) k d))) } o L V' := by
  intro d
  induction d with
  | zero =>
    intro k n a f M V R W hk hn hf
    obtain ⟨n, rfl⟩ : ∃ n', n = n' + 1 := ⟨n - 1, by omega⟩
    have h6 := W.nr s
    have key : ∀ x : Int32, ∃ V', D_M_work_216 L (b + 5) (nI s) a x V = some ((), V') ∧ RZ b A { M with
        snd.snd.snd.fst := fun c r i => if c = s ∧ r = 0 ∧ k ≤ i ∧ i < M.2.1.2.1 9 s then m_va M s i else M.2.2.2.1 c r i
        snd.snd.snd.snd := fun c r i => if c = s ∧ r = 0 ∧ k ≤ i ∧ i < M.2.1.2.1 9 s then m_th M s i else M.2.2.2.2 c r i
        snd.snd.fst.snd := up2 M.2.2.1.2 s 0 a, snd.snd.fst.fst := up2 M.2.2.1.1 s 0 x } o L V' := by
      intro x
      obtain ⟨V1, e1, R1⟩ := R.w_mB (s := s) (k := 0) (by omega) a
      obtain ⟨V2, e2, R2⟩ := R1.w_mF (s := s) (k := 0) (by omega) x
      refine ⟨V2, ?_, R2.ext ?_⟩
      · simp (disch := omega) only [D_M_work_216, D_M_record4, R.r_mP, R1.r_mP, q_bd, q_b2, nI_m4, nI_a0, e1, e2]
      · intro p _
        cases p using zP_cas <;> simp only [zc]
        all_goals
          rw [if_neg (by omega)]
    simp (disch := omega) only [D_M_work_82, R.r_mP, q_bd, q_b2, R.r_mN, R.r_mJ, nI_lep, show M.2.1.2.1 9 s ≤ k by omega, if_true, lg_cmp_eq, z_sum, z_fst]
    cases f with
    | some j =>
      have hj := hf j rfl
      simp (disch := omega) only [oI, z_nm1, if_false, z_or, reduceCtorEq, false_and]
      exact key _
    | none =>
      simp only [oI, z_or, if_true, true_and, ne_eq]
      by_cases g0 : M.1.1.2.2 5 s = 0
      · simp only [g0, if_true, not_true_eq_false, false_and, if_false]
        exact key _
      · simp only [g0, if_false, not_false_eq_true, true_and]
        by_cases g1 : a - a / M.1.1.2.2 5 s * M.1.1.2.2 5 s = 0
        · simp only [g1, if_true]
          exact key _
        · simp only [g1, if_false]
          exact key _
  | succ d ih =>
    intro k n a f M V R W hk hn hf
    obtain ⟨n, rfl⟩ : ∃ n', n = n' + 1 := ⟨n - 1, by omega⟩
    have h6 := W.nr s
    have hnk : ¬ M.2.1.2.1 9 s ≤ k := by omega
    obtain ⟨V1, e1, R1⟩ := R.w_mW (s := s) (k := 0) (i := k) (by omega) (m_va M s k)
    have W1 : WM { M with snd.snd.snd.fst := up3 M.2.2.2.1 s 0 k (m_va M s k) } := ⟨W.nf, W.ns, W.nr, W.nc, W.rv⟩
    have et : D_M_thereNow (b + 5) (nI s) (nI k) L V1 = some (bI (m_th M s k), V1) := e_thereNow R1 W1 hs (show k < M.2.1.2.1 9 s by omega)
    obtain ⟨V2, e2, R2⟩ := R1.w_mH (s := s) (k := 0) (i := k) (by omega) (m_th M s k)
    have W2 : WM { M with snd.snd.snd.fst := up3 M.2.2.2.1 s 0 k (m_va M s k), snd.snd.snd.snd := up3 M.2.2.2.2 s 0 k (m_th M s k) } := ⟨W.nf, W.ns, W.nr, W.nc, W.rv⟩
    have fin : ∀ g : Option Nat, (∀ j, g = some j → j < 6) → z_or g (z_fst (fun i => !(m_th M s i)) (k + 1) d) = z_or f (z_fst (fun i => !(m_th M s i)) k (d + 1)) → ∃ V', D_M_work_82 L n (b + 5) (nI s) (31 * a + m_va M s k) (oI g) (nI (k + 1)) V2 = some ((), V') ∧ RZ b A { M with
        snd.snd.snd.fst := fun c r i => if c = s ∧ r = 0 ∧ k ≤ i ∧ i < M.2.1.2.1 9 s then m_va M s i else M.2.2.2.1 c r i
        snd.snd.snd.snd := fun c r i => if c = s ∧ r = 0 ∧ k ≤ i ∧ i < M.2.1.2.1 9 s then m_th M s i else M.2.2.2.2 c r i
        snd.snd.fst.snd := up2 M.2.2.1.2 s 0 (z_sum (m_va M s) k (d + 1) a)
        snd.snd.fst.fst := up2 M.2.2.1.1 s 0 (if z_or f (z_fst (fun i => !(m_th M s i)) k (d + 1)) = none ∧ M.1.1.2.2 5 s ≠ 0 ∧ z_sum (m_va M s) k (d + 1) a - z_sum (m_va M s) k (d + 1) a / M.1.1.2.2 5 s * M.1.1.2.2 5 s = 0 then 6 else oI (z_or f (z_fst (fun i => !(m_th M s i)) k (d + 1)))) } o L V' := by
      intro g hg hz
      obtain ⟨V3, e3, R3⟩ := ih (k + 1) n (31 * a + m_va M s k) g _ V2 R2 W2 (show k + 1 + d = M.2.1.2.1 9 s by omega) (by omega) hg
      refine ⟨V3, e3, R3.ext ?_⟩
      intro p _
      have eva : m_va { M with snd.snd.snd.fst := up3 M.2.2.2.1 s 0 k (m_va M s k), snd.snd.snd.snd := up3 M.2.2.2.2 s 0 k (m_th M s k) } s = m_va M s := rfl
      have eth : m_th { M with snd.snd.snd.fst := up3 M.2.2.2.1 s 0 k (m_va M s k), snd.snd.snd.snd := up3 M.2.2.2.2 s 0 k (m_th M s k) } s = m_th M s := rfl
      cases p using zP_cas <;> simp only [zc, eva, eth, z_sum, ← hz]
      all_goals
        rename_i c r i _
        congr 1
        by_cases h1 : c = s ∧ r = 0
        · obtain ⟨rfl, rfl⟩ := h1
          by_cases h2 : k + 1 ≤ i ∧ i < M.2.1.2.1 9 c
          · simp [h2, show k ≤ i by omega]
          · by_cases h3 : i = k
            · subst h3; simp [up3, show i < M.2.1.2.1 9 c by omega]
            · simp only [true_and, h2, if_false, show ¬ (k ≤ i ∧ i < M.2.1.2.1 9 c) by omega, up3, h3]
        · have g1 : ¬ (c = s ∧ r = 0 ∧ k + 1 ≤ i ∧ i < M.2.1.2.1 9 s) := fun q => h1 ⟨q.1, q.2.1⟩
          have g2 : ¬ (c = s ∧ r = 0 ∧ k ≤ i ∧ i < M.2.1.2.1 9 s) := fun q => h1 ⟨q.1, q.2.1⟩
          have g3 : ¬ (c = s ∧ r = 0 ∧ i = k) := fun q => h1 ⟨q.1, q.2.1⟩
          simp only [g1, g2, g3, if_false, up3]
    simp (disch := omega) only [D_M_work_82, D_M_record4, R.r_mP, R1.r_mP, R2.r_mP, q_bd, q_b2, R.r_mN, nI_lep, hnk, if_false, nI_m4, nI_m6, nI_a0, nI_add, R.z_4, e_valueNow R W, e1, et, q_bz, e2, R2.r_mW, R2.r_mH, up3, bI_0, nI_1]
    simp only [and_self, if_true]
    cases f with
    | some j =>
      have hj := hf j rfl
      simp (disch := omega) only [oI, z_nm1, if_false]
      exact fin (some j) hf rfl
    | none =>
      simp only [oI, if_true]
      by_cases g : m_th M s k = true
      · simp only [g, Bool.true_eq_false, if_false]
        exact fin none (fun _ q => by cases q) (by simp [z_or, z_fst, g])
      · simp only [Bool.not_eq_true] at g
        simp only [g, if_true]
        exact fin (some k) (fun _ q => by cases q; omega) (by simp [z_or, z_fst, g])
end
