theorem nI_m6 (s : Nat) : (6 : Int32) * nI s = nI (6 * s) := pk_mul 6 s
theorem nI_m4 (s : Nat) : (4 : Int32) * nI s = nI (4 * s) := pk_mul 4 s
theorem nI_a0 (s : Nat) : nI s + (0 : Int32) = nI (s + 0) := nI_add s 0
theorem nI_a2 (s : Nat) : nI s + (2 : Int32) = nI (s + 2) := nI_add s 2
theorem nI_a3 (s : Nat) : nI s + (3 : Int32) = nI (s + 3) := nI_add s 3
theorem nI_e0 {a : Nat} (h : a < 2 ^ 31) : (nI a = (0 : Int32)) = (a = 0) := propext (nI_eq (b := 0) h (by decide))
theorem nI_e1 {a : Nat} (h : a < 2 ^ 31) : (nI a = (1 : Int32)) = (a = 1) := propext (nI_eq (b := 1) h (by decide))
theorem nI_e2 {a : Nat} (h : a < 2 ^ 31) : (nI a = (2 : Int32)) = (a = 2) := propext (nI_eq (b := 2) h (by decide))
def WM (M : vM) : Prop := (M.1.1.2.1 1 ≤ 16) ∧ (M.1.1.2.1 2 ≤ 16) ∧ (∀ s, M.2.1.2.1 9 s ≤ 6) ∧ (∀ s, M.2.1.2.1 12 s ≤ 3) ∧ (∀ s i, s < 16 → i < M.2.1.2.1 9 s → (M.2.1.2.2 11 s i = 2 ∧ M.2.1.2.2 10 s i < 16) ∨ (M.2.1.2.2 11 s i < 2 ∧ M.2.1.2.2 10 s i < s))
theorem WM.nf {M : vM} (z_h : WM M) : M.1.1.2.1 1 ≤ 16 := z_h.1
theorem WM.ns {M : vM} (z_h : WM M) : M.1.1.2.1 2 ≤ 16 := z_h.2.1
theorem WM.nr {M : vM} (z_h : WM M) : ∀ s, M.2.1.2.1 9 s ≤ 6 := z_h.2.2.1
theorem WM.nc {M : vM} (z_h : WM M) : ∀ s, M.2.1.2.1 12 s ≤ 3 := z_h.2.2.2.1
theorem WM.rv {M : vM} (z_h : WM M) : ∀ s i, s < 16 → i < M.2.1.2.1 9 s → (M.2.1.2.2 11 s i = 2 ∧ M.2.1.2.2 10 s i < 16) ∨ (M.2.1.2.2 11 s i < 2 ∧ M.2.1.2.2 10 s i < s) := z_h.2.2.2.2
def m_th (M : vM) (s i : Nat) : Bool := if M.2.1.2.2 11 s i = 2 then M.1.2.1 6 (M.2.1.2.2 10 s i) else true
def m_pt (M : vM) (r p : Nat) : Int64 := if p = 0 then M.2.2.1.2 r 0 &&& M.1.1.2.2 4 r else M.2.2.1.2 r 0
def m_va (M : vM) (s i : Nat) : Int64 := if M.2.1.2.2 11 s i = 2 then (if M.1.2.1 6 (M.2.1.2.2 10 s i) = false then 0 else M.1.1.2.2 3 (M.2.1.2.2 10 s i)) else m_pt M (M.2.1.2.2 10 s i) (M.2.1.2.2 11 s i)
def m_as (M : vM) (s k i : Nat) : Bool := decide (M.2.2.2.2 s k i = m_th M s i ∧ M.2.2.2.1 s k i = m_va M s i)
section
variable {b : Nat} {A : vA} {M : vM} {o : Int64} {L : gL} {V : gV}
theorem e_isFileRead (R : RZ b A M o L V) {s i : Nat} (hs : s < 16) (hi : i < 6) (hr : M.2.1.2.2 11 s i < 2 ^ 31) : D_M_isFileRead (b + 5) (nI s) (nI i) L V = some (bI (decide (M.2.1.2.2 11 s i = 2)), V) := by
  simp (disch := omega) only [D_M_isFileRead, R.r_mP, q_bd, nI_m6, nI_add, R.r_mR, nI_e2]
  split <;> simp [bI, *]
theorem e_partOf (R : RZ b A M o L V) {s p : Nat} (hs : s < 16) (hp : p < 2 ^ 31) : D_M_partOf (b + 5) (nI s) (nI p) L V = some (m_pt M s p, V) := by
  simp (disch := omega) only [D_M_partOf, R.r_mP, q_bd, q_b2, D_M_record4, nI_m4, nI_a0, R.r_mB, R.r_mJ, nI_e0, m_pt]
  split <;> rfl
theorem e_valueNow (R : RZ b A M o L V) (W : WM M) {s i : Nat} (hs : s < 16) (hi : i < M.2.1.2.1 9 s) : D_M_valueNow (b + 5) (nI s) (nI i) L V = some (m_va M s i, V) := by
  have h6 := W.nr s
  have hv := W.rv s i hs hi
  simp (disch := omega) only [D_M_valueNow, R.r_mP, q_bd, q_b2, nI_m6, nI_add, R.r_mR, R.z_4, e_isFileRead R, bI_0, decide_eq_false_iff_not, R.r_mZ, R.r_mJ, e_partOf R, m_va]
  by_cases h2 : M.2.1.2.2 11 s i = 2
  · simp only [h2, not_true_eq_false, if_false, if_true]
    split <;> rfl
  · simp only [h2, not_false_eq_true, if_false, if_true]
theorem e_thereNow (R : RZ b A M o L V) (W : WM M) {s i : Nat} (hs : s < 16) (hi : i < M.2.1.2.1 9 s) : D_M_thereNow (b + 5) (nI s) (nI i) L V = some (bI (m_th M s i), V) := by
  have h6 := W.nr s
  have hv := W.rv s i hs hi
  simp (disch := omega) only [D_M_thereNow, D_M_thereNow_28, R.r_mP, q_bd, q_b2, nI_m6, nI_add, R.r_mR, R.z_4, e_isFileRead R, bI_0, decide_eq_false_iff_not, R.r_mZ, m_th]
  by_cases h2 : M.2.1.2.2 11 s i = 2
  · simp only [h2, not_true_eq_false, if_false, if_true]
    cases M.1.2.1 6 (M.2.1.2.2 10 s i) <;> rfl
  · simp only [h2, not_false_eq_true, if_false, if_true, bI_t]
theorem e_isAsWas (R : RZ b A M o L V) (W : WM M) {s k i : Nat} (hs : s < 16) (hk : k < 4) (hi : i < M.2.1.2.1 9 s) : D_M_isAsWas (b + 5) (nI s) (nI k) (nI i) L V = some (bI (m_as M s k i), V) := by
  have h6 := W.nr s
  simp (disch := omega) only [D_M_isAsWas, D_M_record4, R.r_mP, q_bd, q_b2, nI_m6, nI_m4, nI_add, R.r_mH, R.r_mW, R.z_4, e_thereNow R W, e_valueNow R W, bI_e, lg_cmp_eq, m_as]
  by_cases h2 : M.2.2.2.2 s k i = m_th M s i
  · by_cases h3 : M.2.2.2.1 s k i = m_va M s i <;> simp [h2, h3, bI]
  · simp [h2, bI]
end
