def WA (A : vA) : Prop := (A.1.1.1.1 ≤ 16) ∧ (A.1.1.1.2 ≤ 16) ∧ (∀ s, s < A.1.1.1.2 → A.2.1.1.2 3 s ≤ 6) ∧ (∀ s, s < A.1.1.1.2 → A.2.1.1.2 5 s ≤ 3) ∧ (∀ s i, s < A.1.1.1.2 → i < A.2.1.1.2 3 s → A.2.1.2.2.2 s i < 16 ∨ (16 ≤ A.2.1.2.2.2 s i ∧ (A.2.1.2.2.2 s i - 16) / 2 < s)) ∧ (∀ s k, s < A.1.1.1.2 → k < 4 → A.2.2.1.1 s k < 4)
theorem WA.nf {A : vA} (z_h : WA A) : A.1.1.1.1 ≤ 16 := z_h.1
theorem WA.ns {A : vA} (z_h : WA A) : A.1.1.1.2 ≤ 16 := z_h.2.1
theorem WA.nr {A : vA} (z_h : WA A) : ∀ s, s < A.1.1.1.2 → A.2.1.1.2 3 s ≤ 6 := z_h.2.2.1
theorem WA.nc {A : vA} (z_h : WA A) : ∀ s, s < A.1.1.1.2 → A.2.1.1.2 5 s ≤ 3 := z_h.2.2.2.1
theorem WA.rd {A : vA} (z_h : WA A) : ∀ s i, s < A.1.1.1.2 → i < A.2.1.1.2 3 s → A.2.1.2.2.2 s i < 16 ∨ (16 ≤ A.2.1.2.2.2 s i ∧ (A.2.1.2.2.2 s i - 16) / 2 < s) := z_h.2.2.2.2.1
theorem WA.pm {A : vA} (z_h : WA A) : ∀ s k, s < A.1.1.1.2 → k < 4 → A.2.2.1.1 s k < 4 := z_h.2.2.2.2.2
def a_st (A : vA) (s i : Nat) : Nat := (A.2.1.2.2.2 s i - 16) / 2
def a_pt (A : vA) (s i : Nat) : Nat := (A.2.1.2.2.2 s i - 16) % 2
def a_th (A : vA) (s i : Nat) : Bool := if A.2.1.2.2.2 s i < 16 then decide (A.2.1.2.2.2 s i < A.1.1.1.1) && A.1.1.2.2.2 (A.2.1.2.2.2 s i) else true
def a_ov (A : vA) (r p : Nat) : Int64 := if A.2.1.1.2 5 r = 0 then 0 else if p = 0 then A.2.2.2.1 3 r (A.2.2.1.1 r 0) else A.2.2.2.1 4 r (A.2.2.1.1 r 0)
def a_va (A : vA) (s i : Nat) : Int64 := if A.2.1.2.2.2 s i < 16 then (if A.2.1.2.2.2 s i < A.1.1.1.1 then A.1.2.1.1 (A.2.1.2.2.2 s i) else 0) else a_ov A (a_st A s i) (a_pt A s i)
section
variable {b : Nat} {A : vA} {M : vM} {o : Int64} {L : gL} {V : gV}
theorem WA.of {A A' : vA} (W : WA A) (h1 : A'.1.1.1.1 = A.1.1.1.1) (h2 : A'.1.1.1.2 = A.1.1.1.2) (h3 : A'.2.1.1.2 = A.2.1.1.2) (h4 : A'.2.1.2.2.2 = A.2.1.2.2.2) (h5 : A'.2.2.1.1 = A.2.2.1.1) : WA A' := ⟨by rw [h1]; exact W.nf, by rw [h2]; exact W.ns, by rw [h2, h3]; exact W.nr, by rw [h2, h3]; exact W.nc, by rw [h2, h3, h4]; exact W.rd, by rw [h2, h5]; exact W.pm⟩
theorem a_hasFailed (R : RZ b A M o L V) {s j : Nat} (hs : s < A.1.1.1.2) (hj : j < 4) : D_N_hasFailed (A.1.1.2.2.1 s + 3 + 3 * j) L V = some (bI (decide (A.2.2.1.2 s j ≠ -1)), V) := by
  simp (disch := omega) only [D_N_hasFailed, R.r_eI, q_bd]
  by_cases h : A.2.2.1.2 s j = -1 <;> simp [h, bI]
theorem a_partOfOutput (R : RZ b A M o L V) {s j p : Nat} (hs : s < A.1.1.1.2) (hj : j < 4) (hp : p < 2 ^ 31) : D_N_partOfOutput (A.1.1.2.2.1 s + 3 + 3 * j) (nI p) L V = some (if p = 0 then A.2.2.2.1 3 s j else A.2.2.2.1 4 s j, V) := by
  simp (disch := omega) only [D_N_partOfOutput, R.r_eJ, q_bd, nI_e0]
  split <;> rfl
theorem a_differsAt (R : RZ b A M o L V) {s j i : Nat} (hs : s < A.1.1.1.2) (hj : j < 4) (hi : i < 6) (t : Bool) (v : Int64) : D_N_differsAt (A.1.1.2.2.1 s + 3 + 3 * j) (nI i) (bI t) v L V = some (bI (!(decide (A.2.2.2.2.1 s j i = t ∧ A.2.2.2.2.2 s j i = v))), V) := by
  simp (disch := omega) only [D_N_differsAt, D_N_differsAt_21, R.r_eP, q_bd, R.r_eH, R.r_eW, bI_e, lg_cmp_eq]
  by_cases h1 : A.2.2.2.2.1 s j i = t
  · by_cases h2 : A.2.2.2.2.2 s j i = v <;> simp [h1, h2, bI]
  · simp [h1, bI]
def a_df (A : vA) (s j c i : Nat) : Bool := !(decide (A.2.2.2.2.1 s j i = A.2.2.2.2.1 s c i ∧ A.2.2.2.2.2 s j i = A.2.2.2.2.2 s c i))
theorem a_fd2 (R : RZ b A M o L V) {s j c m : Nat} (hs : s < A.1.1.1.2) (hj : j < 4) (hc : c < 4) (hm : m ≤ 6) : ∀ (d k n : Nat), k + d = m → d < n → D_N_firstDifference_2 L n (A.1.1.2.2.1 s + 3 + 3 * j) (A.1.1.2.2.1 s + 3 + 3 * c) (nI m) (nI k) V = some (oI (z_fst (a_df A s j c) k d), V) := by
  intro d
  induction d with
  | zero =>
    intro k n hk hn
    obtain ⟨n, rfl⟩ : ∃ n', n = n' + 1 := ⟨n - 1, by omega⟩
    simp (disch := omega) only [D_N_firstDifference_2, nI_lep, show m ≤ k by omega, if_true, z_fst, oI]
  | succ d ih =>
    intro k n hk hn
    obtain ⟨n, rfl⟩ : ∃ n', n = n' + 1 := ⟨n - 1, by omega⟩
    simp (disch := omega) only [D_N_firstDifference_2, nI_lep, show ¬ m ≤ k by omega, if_false, R.r_eP, q_bd, q_b2, R.r_eH, R.r_eW, R.z_0, a_differsAt R hs hj, bI_0, nI_1, ih (k + 1) n (by omega) (by omega), z_fst]
    by_cases hq : A.2.2.2.2.1 s j k = A.2.2.2.2.1 s c k ∧ A.2.2.2.2.2 s j k = A.2.2.2.2.2 s c k
    · have ha : a_df A s j c k = false := by unfold a_df; rw [decide_eq_true hq]; rfl
      simp only [decide_eq_true hq, Bool.not_true, if_true, ha, Bool.false_eq_true, if_false]
    · have ha : a_df A s j c k = true := by unfold a_df; rw [decide_eq_false hq]; rfl
      simp only [decide_eq_false hq, Bool.not_false, Bool.true_eq_false, if_false, ha, if_true, oI]
theorem a_firstDifference (R : RZ b A M o L V) {s j c m : Nat} (hs : s < A.1.1.1.2) (hj : j < 4) (hc : c < 4) (hm : m ≤ 6) : D_N_firstDifference (A.1.1.2.2.1 s + 3 + 3 * j) (A.1.1.2.2.1 s + 3 + 3 * c) (nI m) L V = some (oI (z_fst (a_df A s j c) 0 m), V) := a_fd2 R hs hj hc hm m 0 1000 (by omega) (by omega)
theorem a_fm2 (R : RZ b A M o L V) {s j m : Nat} (hs : s < A.1.1.1.2) (hj : j < 4) (hm : m ≤ 6) : ∀ (d k n : Nat), k + d = m → d < n → D_N_firstMissing_2 L n (A.1.1.2.2.1 s + 3 + 3 * j) (nI m) (nI k) V = some (oI (z_fst (fun i => !(A.2.2.2.2.1 s j i)) k d), V) := by
  intro d
  induction d with
  | zero =>
    intro k n hk hn
    obtain ⟨n, rfl⟩ : ∃ n', n = n' + 1 := ⟨n - 1, by omega⟩
    simp (disch := omega) only [D_N_firstMissing_2, nI_lep, show m ≤ k by omega, if_true, z_fst, oI]
  | succ d ih =>
    intro k n hk hn
    obtain ⟨n, rfl⟩ : ∃ n', n = n' + 1 := ⟨n - 1, by omega⟩
    simp (disch := omega) only [D_N_firstMissing_2, nI_lep, show ¬ m ≤ k by omega, if_false, R.r_eP, q_bd, R.r_eH, bI_0, nI_1, ih (k + 1) n (by omega) (by omega), z_fst]
    by_cases h : A.2.2.2.2.1 s j k = true
    · simp [h]
    · simp only [Bool.not_eq_true] at h
      simp [h, oI]
theorem a_firstMissing (R : RZ b A M o L V) {s j m : Nat} (hs : s < A.1.1.1.2) (hj : j < 4) (hm : m ≤ 6) : D_N_firstMissing (A.1.1.2.2.1 s + 3 + 3 * j) (nI m) L V = some (oI (z_fst (fun i => !(A.2.2.2.2.1 s j i)) 0 m), V) := a_fm2 R hs hj hm m 0 1000 (by omega) (by omega)
theorem RZ.r_e0 (R : RZ b A M o L V) {s : Nat} (hs : s < A.1.1.1.2) : g_aR L V 105 (A.1.1.2.2.1 s + 2) (0 : Int32) = some (some (A.1.1.2.2.1 s + 3 + 3 * A.2.2.1.1 s 0)) := R.r_se (k := 0) (by omega)
theorem RZ.r_e3 (R : RZ b A M o L V) {s : Nat} (hs : s < A.1.1.1.2) : g_aR L V 105 (A.1.1.2.2.1 s + 2) (3 : Int32) = some (some (A.1.1.2.2.1 s + 3 + 3 * A.2.2.1.1 s 3)) := R.r_se (k := 3) (by omega)
theorem a_entryAt0 (R : RZ b A M o L V) (W : WA A) {s : Nat} (hs : s < A.1.1.1.2) : D_T_entryAt (A.1.1.2.2.1 s) (0 : Int32) L V = some (if A.2.1.1.2 5 s = 0 then none else some (A.1.1.2.2.1 s + 3 + 3 * A.2.2.1.1 s 0), V) := by
  have h3 := W.nc s hs
  simp (disch := omega) only [D_T_entryAt, show ¬ ((0 : Int32) < 0) by decide, if_false, R.r_sN, q_bd, nI_le0, R.r_sP4, R.r_e0 hs, Nat.le_zero]
  split <;> rfl
theorem a_entryAt (R : RZ b A M o L V) (W : WA A) {s : Nat} (hs : s < A.1.1.1.2) (x : Int32) : (x < 0 ∧ D_T_entryAt (A.1.1.2.2.1 s) x L V = some (none, V)) ∨ ∃ k, k < 2 ^ 31 ∧ x = nI k ∧ D_T_entryAt (A.1.1.2.2.1 s) x L V = some (if k < A.2.1.1.2 5 s then some (A.1.1.2.2.1 s + 3 + 3 * A.2.2.1.1 s k) else none, V) := by
  have h3 := W.nc s hs
  by_cases hx : x < 0
  · exact Or.inl ⟨hx, by simp only [D_T_entryAt, hx, if_true]⟩
  · obtain ⟨k, hk, rfl⟩ := nI_of hx
    refine Or.inr ⟨k, hk, rfl, ?_⟩
    simp (disch := omega) only [D_T_entryAt, hx, if_false, R.r_sN, q_bd, nI_lep, R.r_sP4]
    by_cases h : A.2.1.1.2 5 s ≤ k
    · rw [if_pos h, if_neg (by omega)]
    · rw [if_neg h, if_pos (by omega)]
      simp (disch := omega) only [R.r_se, q_bd]
theorem a_spareEntry (R : RZ b A M o L V) {s : Nat} (hs : s < A.1.1.1.2) : D_T_spareEntry (A.1.1.2.2.1 s) L V = some (some (A.1.1.2.2.1 s + 3 + 3 * A.2.2.1.1 s 3), V) := by
  simp (disch := omega) only [D_T_spareEntry, R.r_sP4, q_bd, R.r_e3 hs]
theorem a_hr2 (R : RZ b A M o L V) (W : WA A) {s : Nat} (hs : s < A.1.1.1.2) {c : Nat} (hc : c < 2 ^ 31) : ∀ (d k n : Nat), k + d = A.2.1.1.2 3 s → d < n → D_T_hasRead_2 L n (A.1.1.2.2.1 s) (nI c) (nI k) V = some (bI (z_any (fun i => decide (A.2.1.2.2.2 s i = c)) k d), V) := by
  have h6 := W.nr s hs
  intro d
  induction d with
  | zero =>
    intro k n hk hn
    obtain ⟨n, rfl⟩ : ∃ n', n = n' + 1 := ⟨n - 1, by omega⟩
    simp (disch := omega) only [D_T_hasRead_2, R.r_sN, q_bd, nI_lep, show A.2.1.1.2 3 s ≤ k by omega, if_true, z_any, bI_f]
  | succ d ih =>
    intro k n hk hn
    obtain ⟨n, rfl⟩ : ∃ n', n = n' + 1 := ⟨n - 1, by omega⟩
    have hr : A.2.1.2.2.2 s k < 2 ^ 31 := by have := W.rd s k hs (by omega); have := W.ns; omega
    simp (disch := omega) only [D_T_hasRead_2, R.r_sN, R.r_sP2, R.r_sr, q_bd, nI_lep, show ¬ A.2.1.1.2 3 s ≤ k by omega, if_false, z_any, nI_eqp, nI_1, ih (k + 1) n (by omega) (by omega)]
    by_cases h : A.2.1.2.2.2 s k = c <;> simp [h, bI]
theorem a_hasRead (R : RZ b A M o L V) (W : WA A) {s : Nat} (hs : s < A.1.1.1.2) {c : Nat} (hc : c < 2 ^ 31) : D_T_hasRead (A.1.1.2.2.1 s) (nI c) L V = some (bI (z_any (fun i => decide (A.2.1.2.2.2 s i = c)) 0 (A.2.1.1.2 3 s)), V) := by
  have h6 := W.nr s hs
  exact a_hr2 R W hs hc (A.2.1.1.2 3 s) 0 1000 (by omega) (by omega)
theorem a_isWithoutOutput (R : RZ b A M o L V) {s : Nat} (hs : s < A.1.1.1.2) : D_T_isWithoutOutput (A.1.1.2.2.1 s) L V = some (bI (decide (A.2.1.2.2.1 9 s = 5 ∨ A.2.1.2.2.1 9 s = 3 ∨ A.2.1.2.2.1 9 s = 4)), V) := by
  simp (disch := omega) only [D_T_isWithoutOutput, D_T_isWithoutOutput_24, R.r_sI, q_bd]
  by_cases h3 : A.2.1.2.2.1 9 s = 3
  · simp [h3, bI]
  · by_cases h4 : A.2.1.2.2.1 9 s = 4
    · simp [h4, bI]
    · by_cases h5 : A.2.1.2.2.1 9 s = 5 <;> simp [h3, h4, h5, bI]
theorem a_ps2 (R : RZ b A M o L V) (W : WA A) {s c : Nat} (hs : s < A.1.1.1.2) (hc : c < 4) : ∀ (d k n : Nat), k + d = A.2.1.1.2 5 s → d < n → D_T_placeOfSameReads_2 L n (A.1.1.2.2.1 s) (A.1.1.2.2.1 s + 3 + 3 * c) (nI k) V = some (oI (z_fst (fun k => (z_fst (a_df A s (A.2.2.1.1 s k) c) 0 (A.2.1.1.2 3 s)).isNone) k d), V) := by
  have h6 := W.nr s hs
  have h3 := W.nc s hs
  intro d
  induction d with
  | zero =>
    intro k n hk hn
    obtain ⟨n, rfl⟩ : ∃ n', n = n' + 1 := ⟨n - 1, by omega⟩
    simp (disch := omega) only [D_T_placeOfSameReads_2, R.r_sN, q_bd, nI_lep, show A.2.1.1.2 5 s ≤ k by omega, if_true, z_fst, oI]
  | succ d ih =>
    intro k n hk hn
    obtain ⟨n, rfl⟩ : ∃ n', n = n' + 1 := ⟨n - 1, by omega⟩
    have hp := W.pm s k hs (by omega)
    simp (disch := omega) only [D_T_placeOfSameReads_2, R.r_sN, R.r_sP4, R.r_se, q_bd, q_b2, nI_lep, show ¬ A.2.1.1.2 5 s ≤ k by omega, if_false, R.z_0, a_firstDifference R hs, nI_1, ih (k + 1) n (by omega) (by omega)]
    simp only [z_fst]
    obtain ⟨x, hz⟩ : ∃ x, z_fst (a_df A s (A.2.2.1.1 s k) c) 0 (A.2.1.1.2 3 s) = x := ⟨_, rfl⟩
    simp only [hz]
    cases x with
    | none => simp [oI]
    | some i =>
      have := (z_fst_lt _ _ _ _ hz).2.1
      simp (disch := omega) only [oI, z_nm1, if_false, Option.isNone_some, Bool.false_eq_true]
def a_ps (A : vA) (s c : Nat) : Option Nat := z_fst (fun k => (z_fst (a_df A s (A.2.2.1.1 s k) c) 0 (A.2.1.1.2 3 s)).isNone) 0 (A.2.1.1.2 5 s)
theorem a_placeOfSameReads (R : RZ b A M o L V) (W : WA A) {s c : Nat} (hs : s < A.1.1.1.2) (hc : c < 4) : D_T_placeOfSameReads (A.1.1.2.2.1 s) (A.1.1.2.2.1 s + 3 + 3 * c) L V = some (oI (a_ps A s c), V) := by
  have h3 := W.nc s hs
  exact a_ps2 R W hs hc (A.2.1.1.2 5 s) 0 1000 (by omega) (by omega)
theorem a_sourceAt (R : RZ b A M o L V) (W : WA A) {f : Nat} (hf : f < 2 ^ 31) : D_A_sourceAt b (nI f) L V = some (if f < A.1.1.1.1 then some (A.1.1.2.1 f) else none, V) := by
  have h1 := W.nf
  have e1 : g_rI L V 3 b 1 = some (nI A.1.1.1.1) := R.r_aN (j := 1) (by omega)
  simp (disch := omega) only [D_A_sourceAt, nI_lt0, if_false, e1, q_bd, nI_lep, R.r_aP0]
  by_cases h : A.1.1.1.1 ≤ f
  · rw [if_pos h, if_neg (by omega)]
  · rw [if_neg h, if_pos (by omega)]
    simp (disch := omega) only [R.r_af, q_bd]
theorem a_stepAt (R : RZ b A M o L V) (W : WA A) {f : Nat} (hf : f < 2 ^ 31) : D_A_stepAt b (nI f) L V = some (if f < A.1.1.1.2 then some (A.1.1.2.2.1 f) else none, V) := by
  have h1 := W.ns
  have e1 : g_rI L V 3 b 3 = some (nI A.1.1.1.2) := R.r_aN (j := 3) (by omega)
  simp (disch := omega) only [D_A_stepAt, nI_lt0, if_false, e1, q_bd, nI_lep, R.r_aP2]
  by_cases h : A.1.1.1.2 ≤ f
  · rw [if_pos h, if_neg (by omega)]
  · rw [if_neg h, if_pos (by omega)]
    simp (disch := omega) only [R.r_as, q_bd]
theorem a_isFileCode {c : Nat} (hc : c < 2 ^ 31) : D_A_isFileCode (nI c) L V = some (bI (decide (c < 16)), V) := by
  simp (disch := omega) only [D_A_isFileCode, nI_16le]
  by_cases h : 16 ≤ c
  · simp [h, bI, show ¬ c < 16 by omega]
  · simp [h, bI, show c < 16 by omega]
theorem a_stepOfCode (R : RZ b A M o L V) (W : WA A) {c : Nat} (h16 : 16 ≤ c) (hc : c < 2 ^ 31) : D_A_stepOfCode b (nI c) L V = some (if (c - 16) / 2 < A.1.1.1.2 then some (A.1.1.2.2.1 ((c - 16) / 2)) else none, V) := by
  have e : (nI c - (16 : Int32)) / (2 : Int32) = nI ((c - 16) / 2) := by
    rw [show (16 : Int32) = nI 16 from rfl, pk_sub h16, show (2 : Int32) = nI 2 from rfl, pk_div (by omega) (by omega) (by omega)]
  have := a_stepAt R W (f := (c - 16) / 2) (by omega)
  simp only [D_A_stepOfCode, R.z_3, q_bd, e, this, q_b2]
theorem a_isThereNow (R : RZ b A M o L V) (W : WA A) {s i : Nat} (hs : s < A.1.1.1.2) (hi : i < A.2.1.1.2 3 s) : D_A_isThereNow b (nI (A.2.1.2.2.2 s i)) L V = some (bI (a_th A s i), V) := by
  have hr := W.rd s i hs hi
  have hn := W.ns
  simp (disch := omega) only [D_A_isThereNow, a_isFileCode, q_b2, bI_0, decide_eq_false_iff_not, R.z_3, q_bd, a_sourceAt R W, a_th]
  by_cases h : A.2.1.2.2.2 s i < 16
  · simp only [h, not_true_eq_false, if_false, if_true]
    by_cases g : A.2.1.2.2.2 s i < A.1.1.1.1
    · simp (disch := omega) only [g, if_true, q_on1, R.r_fZ, q_bd, bI_0, decide_true, Bool.true_and]
      cases A.1.1.2.2.2 (A.2.1.2.2.2 s i) <;> rfl
    · simp only [g, if_false, q_on0, decide_false, Bool.false_and, bI_f]
  · simp only [h, not_false_eq_true, if_true, if_false, bI_t]
theorem a_valueNow (R : RZ b A M o L V) (W : WA A) {s i : Nat} (hs : s < A.1.1.1.2) (hi : i < A.2.1.1.2 3 s) : D_A_valueNow b (nI (A.2.1.2.2.2 s i)) L V = some (a_va A s i, V) := by
  have hr := W.rd s i hs hi
  have hn := W.ns
  by_cases h : A.2.1.2.2.2 s i < 16
  · simp (disch := omega) only [D_A_valueNow, a_isFileCode, q_b2, bI_0, decide_eq_false_iff_not, h, not_true_eq_false, if_false, if_true, R.z_3, q_bd, a_sourceAt R W, a_va]
    by_cases g : A.2.1.2.2.2 s i < A.1.1.1.1
    · simp (disch := omega) only [g, if_true, q_on1, R.r_fJ, q_bd]
    · simp only [g, if_false, q_on0]
  · have hst : (A.2.1.2.2.2 s i - 16) / 2 < A.1.1.1.2 := by omega
    have ep : D_A_partOfCode (nI (A.2.1.2.2.2 s i)) L V = some (nI ((A.2.1.2.2.2 s i - 16) % 2), V) := by
      have e16 : nI (A.2.1.2.2.2 s i) - (16 : Int32) = nI (A.2.1.2.2.2 s i - 16) := pk_sub (b := 16) (by omega)
      have e2 : nI (A.2.1.2.2.2 s i - 16) - nI (A.2.1.2.2.2 s i - 16) / (2 : Int32) * (2 : Int32) = nI ((A.2.1.2.2.2 s i - 16) % 2) := pk_rem (d := 2) (by omega) (by omega) (by omega)
      simp only [D_A_partOfCode, e16, e2]
    simp (disch := omega) only [D_A_valueNow, D_A_valueNow_45, a_isFileCode, q_b2, bI_0, decide_eq_false_iff_not, h, not_false_eq_true, if_false, if_true, R.z_3, q_bd, a_stepOfCode R W, hst, q_on1, R.z_2, a_entryAt0 R W, a_va, a_ov, a_st, a_pt]
    by_cases g : A.2.1.1.2 5 ((A.2.1.2.2.2 s i - 16) / 2) = 0
    · simp only [g, if_true, q_on0]
    · have hp := W.pm ((A.2.1.2.2.2 s i - 16) / 2) 0 hst (by omega)
      simp (disch := omega) only [g, if_false, q_on1, ep, q_b2, R.z_0, q_bd, a_partOfOutput R hst]
      rfl
end
