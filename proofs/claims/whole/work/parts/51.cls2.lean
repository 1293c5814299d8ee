def a_mr (A : vA) (s i : Nat) : Bool := if A.2.1.2.2.2 s i < 16 then !(decide (A.2.2.2.2.1 s (A.2.2.1.1 s 0) i = a_th A s i ∧ A.2.2.2.2.2 s (A.2.2.1.1 s 0) i = a_va A s i)) else A.2.1.2.1 8 (a_st A s i)
def a_mk (A : vA) (s : Nat) : Bool := decide (A.2.1.1.2 5 s = 0) || A.2.1.2.1 6 s || z_any (a_mr A s) 0 (A.2.1.1.2 3 s)
def a_bp (A : vA) (s i : Nat) : Bool := decide (¬ A.2.1.2.2.2 s i < 16 ∧ (A.2.1.2.2.1 9 (a_st A s i) = 5 ∨ A.2.1.2.2.1 9 (a_st A s i) = 3 ∨ A.2.1.2.2.1 9 (a_st A s i) = 4))
def a_bl (A : vA) (s : Nat) : Bool := z_any (a_bp A s) 0 (A.2.1.1.2 3 s)
def a_rt (A : vA) (s k d : Nat) : vA := { A with snd.fst.snd.fst := fun j r => A.2.1.2.1 j r || (decide (j = 7) && z_any (fun i => decide (¬ A.2.1.2.2.2 s i < 16 ∧ a_st A s i = r)) k d) }
def a_t0 (x : Int32) (A : vA) (s : Nat) : vA := { A with snd.fst.snd.fst := up2 A.2.1.2.1 7 s (A.2.1.2.1 7 s || z_bit x s) }
def a_t1 (x : Int32) (A : vA) (s : Nat) : vA := if (A.2.1.2.1 7 s || z_bit x s) = true then a_rt (a_t0 x A s) s 0 (A.2.1.1.2 3 s) else a_t0 x A s
def a_tk (x : Int32) : Nat → vA → vA
  | 0, A => A
  | s + 1, A => a_tk x s (a_t1 x A s)
def a_z0 (A : vA) : vA := { A with snd.fst.snd.fst := fun j s => if j = 7 ∨ j = 8 then false else A.2.1.2.1 j s, snd.fst.snd.snd.fst := fun j _ => if j = 9 then 0 else -1, fst.snd.snd.fst := fun _ => 0 }
theorem z_s1 : ∀ s, s < 16 → ((nI s &&& 31).toBitVec.smod 32).toNat = s := by decide
theorem z_s2 : ∀ s, s < 16 → (((nI s).toUInt32 &&& Int32.toUInt32 31).toBitVec % 32).toNat = s := by decide
theorem z_and1 (a : Int32) : a &&& 1 = if a.toBitVec.getLsbD 0 = true then 1 else 0 := by
  apply Int32.toBitVec_inj.mp
  rw [Int32.toBitVec_and]
  have h := BitVec.and_one_eq_setWidth_ofBool_getLsbD (x := a.toBitVec)
  rw [show (1 : Int32).toBitVec = 1#32 from rfl, h]
  cases a.toBitVec.getLsbD 0 <;> rfl
theorem z_sr (x : Int32) {s : Nat} (hs : s < 16) : (x >>> (nI s &&& 31)).toBitVec.getLsbD 0 = x.toBitVec.getLsbD s := by
  rw [Int32.toBitVec_shiftRight]
  show (x.toBitVec.sshiftRight ((nI s &&& 31).toBitVec.smod 32).toNat).getLsbD 0 = _
  rw [BitVec.getLsbD_sshiftRight, z_s1 s hs]
  simp [show s < 32 by omega]
theorem z_ur (x : Int32) {s : Nat} (hs : s < 16) : (x.toUInt32 >>> ((nI s).toUInt32 &&& Int32.toUInt32 31)).toInt32.toBitVec.getLsbD 0 = x.toBitVec.getLsbD s := by
  have : (x.toUInt32 >>> ((nI s).toUInt32 &&& Int32.toUInt32 31)).toInt32.toBitVec = x.toBitVec >>> (((nI s).toUInt32 &&& Int32.toUInt32 31).toBitVec % 32) := rfl
  rw [this]
  show (x.toBitVec >>> (((nI s).toUInt32 &&& Int32.toUInt32 31).toBitVec % 32).toNat).getLsbD 0 = _
  rw [BitVec.getLsbD_ushiftRight, z_s2 s hs]
  simp
theorem z_bit_cls {x : Int32} {s : Nat} (hs : s < 16) : (((x.toUInt32 >>> ((nI s).toUInt32 &&& Int32.toUInt32 31)).toInt32 &&& (1 : Int32)) = 0) = (z_bit x s = false) := by
  rw [z_and1, z_ur x hs, z_bit, z_and1, z_sr x hs]
  cases x.toBitVec.getLsbD s <;> decide
section
variable {b : Nat} {M : vM} {o : Int64} {L : gL}
theorem RZ.exA {A : vA} {V : gV} (R : RZ b A M o L V) {A' : vA} (h1 : A'.1.1.1.1 = A.1.1.1.1) (h2 : A'.1.1.1.2 = A.1.1.1.2) (h3 : A'.1.1.2.1 = A.1.1.2.1) (h4 : A'.1.1.2.2.1 = A.1.1.2.2.1) (h : ∀ p, zv A p → zc b A' M o p = zc b A M o p) : RZ b A' M o L V := by
  have ev : ∀ q, zv A' q → zv A q := by
    intro q hq
    cases q using zP_cas <;> simp only [zv, h1, h2] at hq ⊢ <;> exact hq
  have ea : ∀ q, za b A' q = za b A q := by
    intro q
    cases q using zP_cas <;> simp only [za, h3, h4]
  refine ⟨⟨R.lay.low, ?_, ?_, ?_, ?_⟩, fun q hq => ?_, fun q hq => ?_⟩
  · rw [h1, h3]; exact R.lay.src
  · rw [h1, h3]; exact R.lay.inj
  · rw [h2, h4]; exact R.lay.stp
  · rw [h2, h4]; exact R.lay.sep
  · rw [ea q]; exact R.siz q (ev q hq)
  · rw [ea q, h q (ev q hq)]; exact R.val q (ev q hq)
theorem a_marksItsReader {A : vA} {V : gV} (R : RZ b A M o L V) (W : WA A) {s i : Nat} (hs : s < A.1.1.1.2) (hi : i < A.2.1.1.2 3 s) : D_A_marksItsReader b (nI (A.2.1.2.2.2 s i)) (A.1.1.2.2.1 s + 3 + 3 * A.2.2.1.1 s 0) (nI i) L V = some (bI (a_mr A s i), V) := by
  have hr := W.rd s i hs hi
  have hn := W.ns
  have h6 := W.nr s hs
  have hp := W.pm s 0 hs (by omega)
  by_cases h : A.2.1.2.2.2 s i < 16
  · simp (disch := omega) only [D_A_marksItsReader, a_isFileCode, q_b2, bI_0, decide_eq_false_iff_not, h, not_true_eq_false, if_false, R.z_3, q_bd, a_isThereNow R W hs hi, a_valueNow R W hs hi, R.z_0, a_differsAt R hs hp, q_bz, a_mr, if_true]
  · have hst : (A.2.1.2.2.2 s i - 16) / 2 < A.1.1.1.2 := by omega
    simp (disch := omega) only [D_A_marksItsReader, a_isFileCode, q_b2, bI_0, decide_eq_false_iff_not, h, not_false_eq_true, if_true, if_false, R.z_3, q_bd, a_stepOfCode R W, hst, q_on1, R.r_sZ, a_mr, a_st]
    by_cases g : A.2.1.2.1 8 ((A.2.1.2.2.2 s i - 16) / 2) = true
    · simp only [g, Bool.true_eq_false, if_false, bI_t]
    · simp only [Bool.not_eq_true] at g
      simp only [g, if_true, bI_f]
theorem a_mk21 {A : vA} {V : gV} (R : RZ b A M o L V) (W : WA A) {s : Nat} (hs : s < A.1.1.1.2) : ∀ (d k n : Nat), k + d = A.2.1.1.2 3 s → d < n → D_A_isMarked_21 L n b (A.1.1.2.2.1 s) (A.1.1.2.2.1 s + 3 + 3 * A.2.2.1.1 s 0) (nI k) V = some (bI (z_any (a_mr A s) k d), V) := by
  have h6 := W.nr s hs
  intro d
  induction d with
  | zero =>
    intro k n hk hn
    obtain ⟨n, rfl⟩ : ∃ n', n = n' + 1 := ⟨n - 1, by omega⟩
    simp (disch := omega) only [D_A_isMarked_21, R.r_sN, q_bd, nI_lep, show A.2.1.1.2 3 s ≤ k by omega, if_true, z_any, bI_f]
  | succ d ih =>
    intro k n hk hn
    obtain ⟨n, rfl⟩ : ∃ n', n = n' + 1 := ⟨n - 1, by omega⟩
    simp (disch := omega) only [D_A_isMarked_21, R.r_sN, R.r_sP2, R.r_sr, q_bd, q_b2, nI_lep, show ¬ A.2.1.1.2 3 s ≤ k by omega, if_false, R.z_3, a_marksItsReader R W hs, bI_0, nI_1, ih (k + 1) n (by omega) (by omega), z_any]
    by_cases g : a_mr A s k = true
    · simp only [g, Bool.true_eq_false, if_false, Bool.true_or, bI_t]
    · simp only [Bool.not_eq_true] at g
      simp only [g, if_true, Bool.false_or]
theorem a_isMarked {A : vA} {V : gV} (R : RZ b A M o L V) (W : WA A) {s : Nat} (hs : s < A.1.1.1.2) : D_A_isMarked b (A.1.1.2.2.1 s) L V = some (bI (a_mk A s), V) := by
  have h6 := W.nr s hs
  have e := a_mk21 R W hs (A.2.1.1.2 3 s) 0 1000 (by omega) (by omega)
  rw [show nI 0 = (0 : Int32) from rfl] at e
  simp (disch := omega) only [D_A_isMarked, R.z_2, q_bd, a_entryAt0 R W, q_b2, a_mk]
  by_cases g0 : A.2.1.1.2 5 s = 0
  · simp only [g0, if_true, q_on0, decide_true, Bool.true_or, bI_t]
  · simp (disch := omega) only [g0, if_false, q_on1, R.r_sZ, q_bd, bI_0, decide_false, Bool.false_or]
    by_cases g1 : A.2.1.2.1 6 s = true
    · simp only [g1, Bool.true_eq_false, if_false, Bool.true_or, bI_t]
    · simp only [Bool.not_eq_true] at g1
      simp only [g1, if_true, Bool.false_or, e]
theorem a_bl2 {A : vA} {V : gV} (R : RZ b A M o L V) (W : WA A) {s : Nat} (hs : s < A.1.1.1.2) : ∀ (d k n : Nat), k + d = A.2.1.1.2 3 s → d < n → D_A_isBlocked_2 L n b (A.1.1.2.2.1 s) (nI k) V = some (bI (z_any (a_bp A s) k d), V) := by
  have h6 := W.nr s hs
  intro d
  induction d with
  | zero =>
    intro k n hk hn
    obtain ⟨n, rfl⟩ : ∃ n', n = n' + 1 := ⟨n - 1, by omega⟩
    simp (disch := omega) only [D_A_isBlocked_2, R.r_sN, q_bd, nI_lep, show A.2.1.1.2 3 s ≤ k by omega, if_true, z_any, bI_f]
  | succ d ih =>
    intro k n hk hn
    obtain ⟨n, rfl⟩ : ∃ n', n = n' + 1 := ⟨n - 1, by omega⟩
    have hr := W.rd s k hs (by omega)
    have hns := W.ns
    by_cases h : A.2.1.2.2.2 s k < 16
    · simp (disch := omega) only [D_A_isBlocked_2, R.r_sN, R.r_sP2, R.r_sr, q_bd, q_b2, nI_lep, show ¬ A.2.1.1.2 3 s ≤ k by omega, if_false, a_isFileCode, bI_0, decide_eq_false_iff_not, h, not_true_eq_false, nI_1, ih (k + 1) n (by omega) (by omega), z_any, a_bp, false_and, decide_false, Bool.false_or]
    · have hst : (A.2.1.2.2.2 s k - 16) / 2 < A.1.1.1.2 := by omega
      simp (disch := omega) only [D_A_isBlocked_2, R.r_sN, R.r_sP2, R.r_sr, q_bd, q_b2, nI_lep, show ¬ A.2.1.1.2 3 s ≤ k by omega, if_false, a_isFileCode, bI_0, decide_eq_false_iff_not, h, not_false_eq_true, if_true, R.z_3, a_stepOfCode R W, hst, q_on1, R.z_2, a_isWithoutOutput R, nI_1, ih (k + 1) n (by omega) (by omega), z_any, a_bp, true_and, a_st]
      by_cases g : A.2.1.2.2.1 9 ((A.2.1.2.2.2 s k - 16) / 2) = 5 ∨ A.2.1.2.2.1 9 ((A.2.1.2.2.2 s k - 16) / 2) = 3 ∨ A.2.1.2.2.1 9 ((A.2.1.2.2.2 s k - 16) / 2) = 4
      · simp only [g, not_true_eq_false, if_false, decide_true, Bool.true_or, bI_t]
      · simp only [g, not_false_eq_true, if_true, decide_false, Bool.false_or]
theorem a_isBlocked {A : vA} {V : gV} (R : RZ b A M o L V) (W : WA A) {s : Nat} (hs : s < A.1.1.1.2) : D_A_isBlocked b (A.1.1.2.2.1 s) L V = some (bI (a_bl A s), V) := by
  have h6 := W.nr s hs
  exact a_bl2 R W hs (A.2.1.1.2 3 s) 0 1000 (by omega) (by omega)
theorem a_ts2 {s : Nat} : ∀ (d k n : Nat) (A : vA) (V : gV), RZ b A M o L V → WA A → s < A.1.1.1.2 → k + d = A.2.1.1.2 3 s → d < n → ∃ V', D_A_takeStepsReadBy_2 L n b (A.1.1.2.2.1 s) (nI k) V = some ((), V') ∧ RZ b (a_rt A s k d) M o L V' := by
  intro d
  induction d with
  | zero =>
    intro k n A V R W hs hk hn
    obtain ⟨n, rfl⟩ : ∃ n', n = n' + 1 := ⟨n - 1, by omega⟩
    have h6 := W.nr s hs
    refine ⟨V, ?_, R.exA rfl rfl rfl rfl ?_⟩
    · simp (disch := omega) only [D_A_takeStepsReadBy_2, R.r_sN, q_bd, nI_lep, show A.2.1.1.2 3 s ≤ k by omega, if_true]
    · intro p _
      cases p using zP_cas <;> simp only [zc, a_rt, z_any, Bool.and_false, Bool.or_false]
  | succ d ih =>
    intro k n A V R W hs hk hn
    obtain ⟨n, rfl⟩ : ∃ n', n = n' + 1 := ⟨n - 1, by omega⟩
    have h6 := W.nr s hs
    have hr := W.rd s k hs (by omega)
    have hns := W.ns
    by_cases h : A.2.1.2.2.2 s k < 16
    · obtain ⟨V1, e1, R1⟩ := ih (k + 1) n A V R W hs (by omega) (by omega)
      refine ⟨V1, ?_, R1.exA rfl rfl rfl rfl ?_⟩
      · simp (disch := omega) only [D_A_takeStepsReadBy_2, R.r_sN, R.r_sP2, R.r_sr, q_bd, q_b2, nI_lep, show ¬ A.2.1.1.2 3 s ≤ k by omega, if_false, a_isFileCode, bI_0, decide_eq_false_iff_not, h, not_true_eq_false, nI_1, e1]
      · intro p _
        cases p using zP_cas <;> simp only [zc, a_rt, z_any, h, not_true_eq_false, false_and, decide_false, Bool.false_or]
    · have hst : (A.2.1.2.2.2 s k - 16) / 2 < A.1.1.1.2 := by omega
      obtain ⟨V1, e1, R1⟩ := R.w_sZ (j := 7) (s := (A.2.1.2.2.2 s k - 16) / 2) (by omega) true
      rw [bI_t] at e1
      obtain ⟨V2, e2, R2⟩ := ih (k + 1) n _ V1 R1 (W.of rfl rfl rfl rfl rfl) hs (show k + 1 + d = A.2.1.1.2 3 s by omega) (by omega)
      refine ⟨V2, ?_, R2.exA rfl rfl rfl rfl ?_⟩
      · simp (disch := omega) only [D_A_takeStepsReadBy_2, R.r_sN, R.r_sP2, R.r_sr, q_bd, q_b2, nI_lep, show ¬ A.2.1.1.2 3 s ≤ k by omega, if_false, a_isFileCode, bI_0, decide_eq_false_iff_not, h, not_false_eq_true, if_true, R.z_3, a_stepOfCode R W, hst, q_on1, e1, nI_1]
        exact e2
      · intro p _
        cases p using zP_cas <;> simp only [zc, a_rt, z_any]
        rename_i j r _
        congr 2
        by_cases g : j = 7 ∧ r = (A.2.1.2.2.2 s k - 16) / 2
        · obtain ⟨rfl, rfl⟩ := g
          simp [up2, a_st, h]
        · simp only [up2, g, if_false, h, not_false_eq_true, true_and]
          by_cases g7 : j = 7
          · have : ¬ a_st A s k = r := fun q => g ⟨g7, q.symm⟩
            simp only [this, decide_false, Bool.false_or]
            rfl
          · simp only [g7, decide_false, Bool.false_and]
theorem a_takeStepsReadBy {s : Nat} {A : vA} {V : gV} (R : RZ b A M o L V) (W : WA A) (hs : s < A.1.1.1.2) : ∃ V', D_A_takeStepsReadBy b (A.1.1.2.2.1 s) L V = some ((), V') ∧ RZ b (a_rt A s 0 (A.2.1.1.2 3 s)) M o L V' := by
  have h6 := W.nr s hs
  exact a_ts2 (A.2.1.1.2 3 s) 0 1000 A V R W hs (by omega) (by omega)
theorem a_t1_same (x : Int32) (A : vA) (s : Nat) : ∃ Z, a_t1 x A s = { A with snd.fst.snd.fst := Z } := by
  unfold a_t1
  split
  · exact ⟨_, rfl⟩
  · exact ⟨_, rfl⟩
theorem a_tn7 (x : Int32) : ∀ (s n : Nat) (A : vA) (V : gV), RZ b A M o L V → WA A → s ≤ A.1.1.1.2 → s < n → ∃ V', D_A_takeNeeded_7 L n b x (nI s + (-1)) V = some ((), V') ∧ RZ b (a_tk x s A) M o L V' := by
  intro s
  induction s with
  | zero =>
    intro n A V R W hs hn
    obtain ⟨n, rfl⟩ : ∃ n', n = n' + 1 := ⟨n - 1, by omega⟩
    refine ⟨V, ?_, R⟩
    simp only [D_A_takeNeeded_7, show (nI 0 + (-1) : Int32) < 0 by decide, if_true]
  | succ s ih =>
    intro n A V R W hs hn
    obtain ⟨n, rfl⟩ : ∃ n', n = n' + 1 := ⟨n - 1, by omega⟩
    have hns := W.ns
    have h6 := W.nr s (by omega)
    have hs' : s < A.1.1.1.2 := by omega
    have st1 : ∃ V1, D_A_takeNeeded_7 L (n + 1) b x (nI s) V = D_A_takeNeeded_31 L (D_A_takeNeeded_7 L n) b x (nI s) (some (A.1.1.2.2.1 s)) V1 ∧ RZ b (a_t0 x A s) M o L V1 := by
      by_cases g : z_bit x s = true
      · obtain ⟨V1, e1, R1⟩ := R.w_sZ (j := 7) (s := s) (by omega) (A.2.1.2.1 7 s || z_bit x s)
        refine ⟨V1, ?_, R1⟩
        rw [g, Bool.or_true, bI_t] at e1
        simp (disch := omega) only [D_A_takeNeeded_7, nI_lt0, if_false, R.r_aP2, R.r_as, q_bd, z_bit_cls, g, Bool.true_eq_false, e1]
      · simp only [Bool.not_eq_true] at g
        refine ⟨V, ?_, R.exA rfl rfl rfl rfl ?_⟩
        · simp (disch := omega) only [D_A_takeNeeded_7, nI_lt0, if_false, R.r_aP2, R.r_as, q_bd, z_bit_cls, g, if_true]
        · intro p _
          cases p using zP_cas <;> simp only [zc, a_t0, g, Bool.or_false]
          rename_i j r _
          congr 2
          unfold up2
          split
          · rename_i h; rw [h.1, h.2]
          · rfl
    obtain ⟨V1, e1, R1⟩ := st1
    have W1 : WA (a_t0 x A s) := W.of rfl rfl rfl rfl rfl
    have ez : g_rI L V1 2 (A.1.1.2.2.1 s) 7 = some (bI (A.2.1.2.1 7 s || z_bit x s)) := by
      have := R1.r_sZ (j := 7) (s := s) (by show s < A.1.1.1.2 ∧ _; omega)
      refine this.trans ?_
      simp [a_t0, up2]
    have st2 : ∃ V2, D_A_takeNeeded_31 L (D_A_takeNeeded_7 L n) b x (nI s) (some (A.1.1.2.2.1 s)) V1 = D_A_takeNeeded_7 L n b x (nI s + (-1)) V2 ∧ RZ b (a_t1 x A s) M o L V2 := by
      by_cases g : (A.2.1.2.1 7 s || z_bit x s) = true
      · obtain ⟨V2, e2, R2⟩ := a_takeStepsReadBy R1 W1 hs'
        refine ⟨V2, ?_, by rw [a_t1, if_pos g]; exact R2⟩
        replace e2 : D_A_takeStepsReadBy b (A.1.1.2.2.1 s) L V1 = some ((), V2) := e2
        simp only [D_A_takeNeeded_31, q_bd, ez, g, bI_0, Bool.true_eq_false, if_false, R1.z_3, e2, q_b2]
      · refine ⟨V1, ?_, by rw [a_t1, if_neg g]; exact R1⟩
        simp only [Bool.not_eq_true] at g
        simp only [D_A_takeNeeded_31, q_bd, ez, g, bI_0, if_true]
    obtain ⟨V2, e2, R2⟩ := st2
    obtain ⟨Z, hZ⟩ := a_t1_same x A s
    have W2 : WA (a_t1 x A s) := by rw [hZ]; exact W.of rfl rfl rfl rfl rfl
    obtain ⟨V3, e3, R3⟩ := ih n _ V2 R2 W2 (by rw [hZ]; show s ≤ A.1.1.1.2; omega) (by omega)
    refine ⟨V3, ?_, R3⟩
    rw [pk_m1, e1, e2, e3]
theorem a_takeNeeded {A : vA} {V : gV} (R : RZ b A M o L V) (W : WA A) (x : Int32) : ∃ V', D_A_takeNeeded b x L V = some ((), V') ∧ RZ b (a_tk x A.1.1.1.2 A) M o L V' := by
  have h6 := W.ns
  obtain ⟨V1, e1, R1⟩ := a_tn7 x A.1.1.1.2 1000 A V R W (Nat.le_refl _) (by omega)
  refine ⟨V1, ?_, R1⟩
  have ens : g_rI L V 3 b 3 = some (nI A.1.1.1.2) := R.r_aN (j := 3) (by omega)
  simp only [D_A_takeNeeded, ens, q_bd]
  rw [show nI A.1.1.1.2 - 1 = nI A.1.1.1.2 + (-1) from Int32.sub_eq_add_neg _ _]
  exact e1
theorem a_f27 : ∀ (d k n : Nat) (A : vA) (V : gV), RZ b A M o L V → k + d = 5 → d < n → ∃ V', D_A_forgetLatestBuild_27 L n b (nI k) V = some ((), V') ∧ RZ b { A with fst.snd.snd.fst := fun i => if k ≤ i then 0 else A.1.2.2.1 i } M o L V' := by
  intro d
  induction d with
  | zero =>
    intro k n A V R hk hn
    obtain rfl : k = 5 := by omega
    obtain ⟨n, rfl⟩ : ∃ n', n = n' + 1 := ⟨n - 1, by omega⟩
    refine ⟨V, ?_, R.exA rfl rfl rfl rfl ?_⟩
    · simp (disch := omega) only [D_A_forgetLatestBuild_27, nI_5le, Nat.le_refl, if_true]
    · intro p hp
      cases p using zP_cas <;> simp only [zc]
      simp only [zv] at hp
      rw [if_neg (by omega)]
  | succ d ih =>
    intro k n A V R hk hn
    obtain ⟨n, rfl⟩ : ∃ n', n = n' + 1 := ⟨n - 1, by omega⟩
    obtain ⟨V1, e1, R1⟩ := R.w_ac (i := k) (by omega) 0
    obtain ⟨V3, e3, R3⟩ := ih (k + 1) n _ V1 R1 (by omega) (by omega)
    refine ⟨V3, ?_, R3.exA rfl rfl rfl rfl ?_⟩
    · rw [← e3]
      simp (disch := omega) only [D_A_forgetLatestBuild_27, nI_5le, show ¬ 5 ≤ k by omega, if_false, R.r_aP4, q_bd, e1, nI_1]
    · intro p _
      cases p using zP_cas <;> simp only [zc]
      rename_i u _
      congr 1
      simp only [up1]
      by_cases h1 : k + 1 ≤ u
      · simp [h1, show k ≤ u by omega]
      · by_cases h2 : u = k
        · subst h2; simp
        · simp [h1, h2, show ¬ k ≤ u by omega]
theorem a_fT {A : vA} {V : gV} (R : RZ b A M o L V) {s : Nat} (hs : s < A.1.1.1.2) : ∃ V', D_T_forgetLatestBuild (A.1.1.2.2.1 s) L V = some ((), V') ∧ RZ b { A with snd.fst.snd.fst := up2 (up2 A.2.1.2.1 7 s false) 8 s false, snd.fst.snd.snd.fst := up2 (up2 A.2.1.2.2.1 9 s 0) 10 s (-1) } M o L V' := by
  obtain ⟨V1, e1, R1⟩ := R.w_sZ (j := 7) (s := s) (by omega) false
  obtain ⟨V2, e2, R2⟩ := R1.w_sZ (j := 8) (s := s) (by show s < A.1.1.1.2 ∧ _; omega) false
  obtain ⟨V3, e3, R3⟩ := R2.w_sI (j := 9) (s := s) (by show s < A.1.1.1.2 ∧ _; omega) 0
  obtain ⟨V4, e4, R4⟩ := R3.w_sI (j := 10) (s := s) (by show s < A.1.1.1.2 ∧ _; omega) (-1)
  refine ⟨V4, ?_, R4⟩
  rw [bI_f] at e1 e2
  replace e2 : g_wr L V1 2 (A.1.1.2.2.1 s) 8 (tI 0) = some V2 := e2
  replace e3 : g_wr L V2 2 (A.1.1.2.2.1 s) 9 (tI 0) = some V3 := e3
  replace e4 : g_wr L V3 2 (A.1.1.2.2.1 s) 10 (tI (-1)) = some V4 := e4
  simp only [D_T_forgetLatestBuild, e1, q_bd, e2, e3, e4]
theorem a_f2 : ∀ (d k n : Nat) (A : vA) (V : gV), RZ b A M o L V → WA A → k + d = A.1.1.1.2 → d < n → ∃ V', D_A_forgetLatestBuild_2 L n b (nI k) V = some ((), V') ∧ RZ b { A with snd.fst.snd.fst := fun j s => if (j = 7 ∨ j = 8) ∧ k ≤ s then false else A.2.1.2.1 j s, snd.fst.snd.snd.fst := fun j s => if k ≤ s then (if j = 9 then 0 else if j = 10 then -1 else A.2.1.2.2.1 j s) else A.2.1.2.2.1 j s, fst.snd.snd.fst := fun _ => 0 } M o L V' := by
  intro d
  induction d with
  | zero =>
    intro k n A V R W hk hn
    obtain ⟨n, rfl⟩ : ∃ n', n = n' + 1 := ⟨n - 1, by omega⟩
    have hns := W.ns
    obtain ⟨V1, e1, R1⟩ := a_f27 5 0 1000 A V R (by omega) (by omega)
    refine ⟨V1, ?_, R1.exA rfl rfl rfl rfl ?_⟩
    · have ens : g_rI L V 3 b 3 = some (nI A.1.1.1.2) := R.r_aN (j := 3) (by omega)
      simp (disch := omega) only [D_A_forgetLatestBuild_2, ens, q_bd, nI_lep, show A.1.1.1.2 ≤ k by omega, if_true]
      exact e1
    · intro p hp
      cases p using zP_cas <;> simp only [zc, Nat.zero_le, if_true]
      all_goals
        simp only [zv] at hp
        rw [if_neg (by omega)]
  | succ d ih =>
    intro k n A V R W hk hn
    obtain ⟨n, rfl⟩ : ∃ n', n = n' + 1 := ⟨n - 1, by omega⟩
    have hns := W.ns
    obtain ⟨V1, e1, R1⟩ := a_fT R (s := k) (by omega)
    obtain ⟨V3, e3, R3⟩ := ih (k + 1) n _ V1 R1 (W.of rfl rfl rfl rfl rfl) (show k + 1 + d = A.1.1.1.2 by omega) (by omega)
    refine ⟨V3, ?_, R3.exA rfl rfl rfl rfl ?_⟩
    · have ens : g_rI L V 3 b 3 = some (nI A.1.1.1.2) := R.r_aN (j := 3) (by omega)
      rw [← e3]
      simp (disch := omega) only [D_A_forgetLatestBuild_2, ens, q_bd, q_b2, nI_lep, show ¬ A.1.1.1.2 ≤ k by omega, if_false, R.r_aP2, R.r_as, R.z_2, e1, nI_1]
    · intro p _
      cases p using zP_cas <;> simp only [zc]
      · rename_i j u _
        congr 2
        simp only [up2]
        by_cases hj : j = 7 ∨ j = 8
        · by_cases h1 : k + 1 ≤ u
          · simp [hj, h1, show k ≤ u by omega]
          · by_cases h2 : u = k
            · subst h2
              rcases hj with rfl | rfl <;> simp
            · simp [h1, h2, show ¬ k ≤ u by omega]
        · simp only [hj, false_and, if_false]
          have : j ≠ 7 ∧ j ≠ 8 := by omega
          simp [this]
      · rename_i j u _
        congr 1
        simp only [up2]
        by_cases h1 : k + 1 ≤ u
        · have h2 : ¬ u = k := by omega
          simp [h1, h2, show k ≤ u by omega]
        · by_cases h2 : u = k
          · subst h2
            by_cases g9 : j = 9
            · subst g9; simp
            · by_cases g10 : j = 10
              · subst g10; simp
              · simp [g9, g10]
          · simp [h1, h2, show ¬ k ≤ u by omega]
theorem a_forget {A : vA} {V : gV} (R : RZ b A M o L V) (W : WA A) : ∃ V', D_A_forgetLatestBuild b L V = some ((), V') ∧ RZ b (a_z0 A) M o L V' := by
  have hns := W.ns
  obtain ⟨V1, e1, R1⟩ := a_f2 A.1.1.1.2 0 1000 A V R W (by omega) (by omega)
  refine ⟨V1, e1, R1.exA rfl rfl rfl rfl ?_⟩
  intro p hp
  cases p using zP_cas <;> simp only [zc, a_z0, Nat.zero_le, and_true, if_true]
  simp only [zv] at hp
  rename_i j s
  congr 1
  by_cases g9 : j = 9
  · simp [g9]
  · have : j = 10 := by omega
    simp [this]
end
