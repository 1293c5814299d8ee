def z_fst (p : Nat → Bool) : Nat → Nat → Option Nat
  | _, 0 => none
  | k, d + 1 => if p k = true then some k else z_fst p (k + 1) d
def z_all (p : Nat → Bool) : Nat → Nat → Bool
  | _, 0 => true
  | k, d + 1 => p k && z_all p (k + 1) d
def z_any (p : Nat → Bool) : Nat → Nat → Bool
  | _, 0 => false
  | k, d + 1 => p k || z_any p (k + 1) d
def z_sum (v : Nat → Int64) : Nat → Nat → Int64 → Int64
  | _, 0, a => a
  | k, d + 1, a => z_sum v (k + 1) d ((31 : Int64) * a + v k)
def oI : Option Nat → Int32
  | none => -1
  | some k => nI k
theorem z_neg1 : (-1 : Int32) < 0 := by decide
theorem z_nm1 {k : Nat} (h : k < 2 ^ 31) : (nI k = (-1 : Int32)) = False := by
  refine eq_false fun e => nI_pos h ?_
  rw [e]; decide
theorem nI_le0 {a : Nat} (h : a < 2 ^ 31) : (nI a ≤ (0 : Int32)) = (a ≤ 0) := propext (nI_leI (b := 0) h (by decide))
theorem nI_lep {a c : Nat} (h : a < 2 ^ 31) (hc : c < 2 ^ 31) : (nI a ≤ nI c) = (a ≤ c) := propext (nI_leI h hc)
theorem nI_ltp {a c : Nat} (h : a < 2 ^ 31) (hc : c < 2 ^ 31) : (nI a < nI c) = (a < c) := propext (nI_ltI h hc)
theorem nI_eqp {a c : Nat} (h : a < 2 ^ 31) (hc : c < 2 ^ 31) : (nI a = nI c) = (a = c) := propext (nI_eq h hc)
theorem nI_3le {a : Nat} (h : a < 2 ^ 31) : ((3 : Int32) ≤ nI a) = (3 ≤ a) := propext (nI_leI (a := 3) (by decide) h)
theorem nI_6le {a : Nat} (h : a < 2 ^ 31) : ((6 : Int32) ≤ nI a) = (6 ≤ a) := propext (nI_leI (a := 6) (by decide) h)
theorem nI_lt0 {a : Nat} (h : a < 2 ^ 31) : (nI a < (0 : Int32)) = False := eq_false (nI_pos h)
def m_mt (M : vM) (s : Nat) : Option Nat := z_fst (fun r => z_all (m_as M s r) 0 (M.2.1.2.1 9 s)) 0 (M.2.1.2.1 12 s)
def m_bp (M : vM) (s i : Nat) : Bool := decide (M.2.1.2.2 11 s i ≠ 2 ∧ (M.1.2.2.1 17 (M.2.1.2.2 10 s i) = 5 ∨ M.1.2.2.1 17 (M.2.1.2.2 10 s i) = 3 ∨ M.1.2.2.1 17 (M.2.1.2.2 10 s i) = 4))
def m_bl (M : vM) (s : Nat) : Bool := z_any (m_bp M s) 0 (M.2.1.2.1 9 s)
def m_ho (M : vM) (s : Nat) : Bool := decide (0 < M.2.1.2.1 12 s ∧ M.2.2.1.1 s 0 = -1)
section
variable {b : Nat} {A : vA} {M : vM} {o : Int64} {L : gL} {V : gV}
theorem RZ.ext (R : RZ b A M o L V) {M' : vM} (h : ∀ p, zv A p → zc b A M' o p = zc b A M o p) : RZ b A M' o L V :=
  ⟨R.lay, R.siz, fun p hp => (R.val p hp).trans (h p hp).symm⟩
theorem RZ.r_c (R : RZ b A M o L V) : g_aI L V 100 (b + 3 + 19) (0 : Int32) = some (M.1.2.2.2 0) ∧ g_aI L V 100 (b + 3 + 19) (1 : Int32) = some (M.1.2.2.2 1) ∧ g_aI L V 100 (b + 3 + 19) (2 : Int32) = some (M.1.2.2.2 2) ∧ g_aI L V 100 (b + 3 + 19) (3 : Int32) = some (M.1.2.2.2 3) ∧ g_aI L V 100 (b + 3 + 19) (4 : Int32) = some (M.1.2.2.2 4) :=
  ⟨R.r_mc (i := 0) (by omega), R.r_mc (i := 1) (by omega), R.r_mc (i := 2) (by omega), R.r_mc (i := 3) (by omega), R.r_mc (i := 4) (by omega)⟩
theorem e_isAsWas0 (R : RZ b A M o L V) (W : WM M) {s i : Nat} (hs : s < 16) (hi : i < M.2.1.2.1 9 s) : D_M_isAsWas (b + 5) (nI s) (0 : Int32) (nI i) L V = some (bI (m_as M s 0 i), V) := e_isAsWas R W (k := 0) hs (by omega) hi
theorem e_partOf0 (R : RZ b A M o L V) {s : Nat} (hs : s < 16) : D_M_partOf (b + 5) (nI s) (0 : Int32) L V = some (m_pt M s 0, V) := e_partOf R (p := 0) hs (by omega)
theorem e_partOf1 (R : RZ b A M o L V) {s : Nat} (hs : s < 16) : D_M_partOf (b + 5) (nI s) (1 : Int32) L V = some (m_pt M s 1, V) := e_partOf R (p := 1) hs (by omega)
theorem e_hasOutput (R : RZ b A M o L V) (W : WM M) {s : Nat} (hs : s < 16) : D_M_hasOutput (b + 5) (nI s) L V = some (bI (m_ho M s), V) := by
  have h3 := W.nc s
  simp (disch := omega) only [D_M_hasOutput, D_M_record4, R.r_mP, q_bd, q_b2, nI_m4, nI_a0, R.r_mN, R.r_mF, nI_le0, m_ho]
  by_cases h0 : M.2.1.2.1 12 s ≤ 0
  · simp [h0, bI]; omega
  · by_cases h1 : M.2.2.1.1 s 0 = -1 <;> simp [h0, h1, bI, Nat.pos_of_ne_zero] <;> omega
theorem e_mt17 (R : RZ b A M o L V) (W : WM M) {s r : Nat} (hs : s < 16) (hr : r < 4) (K2 : Nat → Int32 → Int32 → gV → Option (Int32 × gV)) : ∀ (d k n : Nat) (c : Bool), k + d = M.2.1.2.1 9 s → d < n → D_M_matching_17 L K2 n (b + 5) (nI s) (nI r) (bI c) (nI k) V = if (c && z_all (m_as M s r) k d) = true then some (nI r, V) else K2 (b + 5) (nI s) (nI (r + 1)) V := by
  have h6 := W.nr s
  intro d
  induction d with
  | zero =>
    intro k n c hk hn
    obtain ⟨n, rfl⟩ : ∃ n', n = n' + 1 := ⟨n - 1, by omega⟩
    simp (disch := omega) only [D_M_matching_17, R.r_mP, q_bd, q_b2, R.r_mN, nI_lep, show M.2.1.2.1 9 s ≤ k by omega, if_true, bI_0, nI_1, z_all]
    cases c <;> simp
  | succ d ih =>
    intro k n c hk hn
    obtain ⟨n, rfl⟩ : ∃ n', n = n' + 1 := ⟨n - 1, by omega⟩
    have hnk : ¬ M.2.1.2.1 9 s ≤ k := by omega
    simp (disch := omega) only [D_M_matching_17, R.r_mP, q_bd, q_b2, R.r_mN, nI_lep, hnk, if_false, bI_0, nI_1, z_all, R.z_4, e_isAsWas R W]
    have i0 := ih (k + 1) n false (by omega) (by omega)
    have i1 := ih (k + 1) n true (by omega) (by omega)
    rw [bI_f] at i0
    rw [bI_t] at i1
    rw [i0, i1]
    cases c
    · simp
    · by_cases hx : m_as M s r k = true <;> simp [hx]
theorem e_mt2 (R : RZ b A M o L V) (W : WM M) {s : Nat} (hs : s < 16) : ∀ (d k n : Nat), k + d = M.2.1.2.1 12 s → d < n → D_M_matching_2 L n (b + 5) (nI s) (nI k) V = some (oI (z_fst (fun r => z_all (m_as M s r) 0 (M.2.1.2.1 9 s)) k d), V) := by
  have h6 := W.nr s
  have h3 := W.nc s
  intro d
  induction d with
  | zero =>
    intro k n hk hn
    obtain ⟨n, rfl⟩ : ∃ n', n = n' + 1 := ⟨n - 1, by omega⟩
    simp (disch := omega) only [D_M_matching_2, R.r_mP, q_bd, q_b2, R.r_mN, nI_lep, show M.2.1.2.1 12 s ≤ k by omega, if_true, z_fst, oI]
  | succ d ih =>
    intro k n hk hn
    obtain ⟨n, rfl⟩ : ∃ n', n = n' + 1 := ⟨n - 1, by omega⟩
    have hnk : ¬ M.2.1.2.1 12 s ≤ k := by omega
    have e := e_mt17 R W (s := s) (r := k) hs (by omega) (D_M_matching_2 L n) (M.2.1.2.1 9 s) 0 1000 true (by omega) (by omega)
    rw [bI_t, show nI 0 = (0 : Int32) from rfl, ih (k + 1) n (by omega) (by omega)] at e
    simp (disch := omega) only [D_M_matching_2, R.r_mP, q_bd, q_b2, R.r_mN, nI_lep, hnk, if_false, z_fst]
    rw [e]
    simp only [Bool.true_and]
    split <;> simp [oI, *]
theorem e_matching (R : RZ b A M o L V) (W : WM M) {s : Nat} (hs : s < 16) : D_M_matching (b + 5) (nI s) L V = some (oI (m_mt M s), V) := by
  have h3 := W.nc s
  exact e_mt2 R W hs (M.2.1.2.1 12 s) 0 1000 (by omega) (by omega)
theorem e_bl4 (R : RZ b A M o L V) (W : WM M) {s : Nat} (hs : s < 16) : ∀ (d k n : Nat) (c : Bool), k + d = M.2.1.2.1 9 s → d < n → D_M_isBlocked_4 L n (b + 5) (nI s) (bI c) (nI k) V = some (bI (c || z_any (m_bp M s) k d), V) := by
  have h6 := W.nr s
  intro d
  induction d with
  | zero =>
    intro k n c hk hn
    obtain ⟨n, rfl⟩ : ∃ n', n = n' + 1 := ⟨n - 1, by omega⟩
    simp (disch := omega) only [D_M_isBlocked_4, R.r_mP, q_bd, q_b2, R.r_mN, nI_lep, show M.2.1.2.1 9 s ≤ k by omega, if_true, q_bz, z_any, Bool.or_false]
  | succ d ih =>
    intro k n c hk hn
    obtain ⟨n, rfl⟩ : ∃ n', n = n' + 1 := ⟨n - 1, by omega⟩
    have hnk : ¬ M.2.1.2.1 9 s ≤ k := by omega
    have hv := W.rv s k hs (by omega)
    have i0 := ih (k + 1) n false (by omega) (by omega)
    have i1 := ih (k + 1) n true (by omega) (by omega)
    rw [bI_f] at i0
    rw [bI_t] at i1
    simp (disch := omega) only [D_M_isBlocked_4, D_M_isBlocked_73, R.r_mP, q_bd, q_b2, R.r_mN, nI_lep, hnk, if_false, bI_0, nI_1, z_any, R.z_4, e_isFileRead R, nI_m6, nI_add, R.r_mR, R.r_mI, decide_eq_false_iff_not, i0, i1, m_bp]
    cases c
    · by_cases h2 : M.2.1.2.2 11 s k = 2
      · simp [h2]
      · by_cases g5 : M.1.2.2.1 17 (M.2.1.2.2 10 s k) = 5
        · simp [h2, g5]
        · by_cases g3 : M.1.2.2.1 17 (M.2.1.2.2 10 s k) = 3
          · simp [h2, g3]
          · by_cases g4 : M.1.2.2.1 17 (M.2.1.2.2 10 s k) = 4 <;> simp [h2, g5, g3, g4]
    · simp
theorem e_isBlocked (R : RZ b A M o L V) (W : WM M) {s : Nat} (hs : s < 16) : D_M_isBlocked (b + 5) (nI s) L V = some (bI (m_bl M s), V) := by
  have h3 := W.nr s
  exact e_bl4 R W hs (M.2.1.2.1 9 s) 0 1000 false (by omega) (by omega)
end
