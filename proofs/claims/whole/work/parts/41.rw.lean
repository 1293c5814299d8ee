theorem q_ix {L : gL} {k a n j : Nat} (hL : L.2 k a = some n) (hj : j < n) (hn : n < 2 ^ 31) : g_ix L k a (nI j) = some j := by
  have h1 : ¬ nI j < 0 := nI_pos (by omega)
  have h2 : (nI j).toNatClampNeg = j := nI_clamp (by omega)
  simp only [g_ix, hL, h2]
  rw [if_neg]
  rintro (h | h)
  · exact h1 h
  · omega
theorem q_b2 {α β : Type} (x : α) (V : gV) (f : α → gV → Option β) : g_b2 (some (x, V)) f = f x V := rfl
theorem q_b3 {α β : Type} (x : α) (L : gL) (V : gV) (f : α → gL → gV → Option β) : g_b3 (some (x, L, V)) f = f x L V := rfl
theorem q_bn {β : Type} (L : gL) (V : gV) (f : gL → gV → Option β) : g_bn (some (L, V)) f = f L V := rfl
theorem q_on0 {α : Type} (x : Option α) (f : Nat → Option α) : g_on none x f = x := rfl
theorem q_on1 {α : Type} (a : Nat) (x : Option α) (f : Nat → Option α) : g_on (some a) x f = f a := rfl
theorem q_bd {α β : Type} (x : α) (f : α → Option β) : Option.bind (some x) f = f x := rfl
theorem bI_t : bI true = 1 := rfl
theorem bI_f : bI false = 0 := rfl
theorem bI_0 (x : Bool) : (bI x = 0) = (x = false) := by cases x <;> simp [bI]
theorem bI_1 (x : Bool) : (bI x = 1) = (x = true) := by cases x <;> simp [bI]
theorem bI_e (x y : Bool) : (bI x = bI y) = (x = y) := by cases x <;> cases y <;> simp [bI]
theorem q_bz (x : Bool) : g_bz (bI x) = some () := by cases x <;> simp [g_bz, bI]
theorem q_bz0 : g_bz 0 = some () := by simp [g_bz]
theorem q_bz1 : g_bz 1 = some () := by simp [g_bz]
section
variable {b : Nat} {A : vA} {M : vM} {o : Int64} {L : gL} {V : gV}
theorem RZ.qd (R : RZ b A M o L V) (p : zP) (hv : zv A p) : g_rd L V (zk p) (za b A p) (zi p) = some (zc b A M o p) := by
  simp [g_rd, R.siz p hv, z_lt hv, R.val p hv]
theorem RZ.qx (R : RZ b A M o L V) (p : zP) (hv : zv A p) : g_ix L (zk p) (za b A p) (nI (zi p)) = some (zi p) := q_ix (R.siz p hv) (z_lt hv) (z_sz p)
theorem RZ.put (R : RZ b A M o L V) (p : zP) (hv : zv A p) {A' : vA} {M' : vM} {o' : Int64} {t : gT} (h1 : A'.1.1.1.1 = A.1.1.1.1) (h2 : A'.1.1.1.2 = A.1.1.1.2) (h3 : A'.1.1.2.1 = A.1.1.2.1) (h4 : A'.1.1.2.2.1 = A.1.1.2.2.1) (ht : zc b A' M' o' p = t) (hc : ∀ q, zv A q → q = p ∨ zc b A' M' o' q = zc b A M o q) : RZ b A' M' o' L (g_st V (zk p) (za b A p) (zi p) t) := by
  have ev : ∀ q, zv A' q → zv A q := by
    intro q hq
    cases q using zP_cas <;> simp only [zv, h1, h2] at hq ⊢ <;> exact hq
  have ea : ∀ q, za b A' q = za b A q := by
    intro q
    cases q using zP_cas <;> simp only [za, h3, h4]
  refine ⟨⟨R.lay.low, ?_, ?_, ?_, ?_⟩, fun q hq => ?_, fun q hq => ?_⟩
  · rw [h1, h3]; exact R.lay.src
  · rw [h1, h3]; exact R.lay.inj
  · rw [h2, h4]; exact R.lay.stp
  · rw [h2, h4]; exact R.lay.sep
  · rw [ea q]; exact R.siz q (ev q hq)
  · rw [ea q]
    by_cases e : q = p
    · subst e; rw [ht]; simp [g_st]
    · rw [(hc q (ev q hq)).resolve_left e, ← R.val q (ev q hq)]
      unfold g_st
      rw [if_neg]
      rintro ⟨a1, a2, a3⟩
      exact e (z_inj R.lay (ev q hq) hv a1 a2 a3)
theorem RZ.r_aP0 (R : RZ b A M o L V) : g_rR L V 3 (b) 0 = some (some (b + 1)) := by
  have h1 := R.qd (zP.aP 0) (by simp [zv])
  simp only [g_rR, show g_rd L V 3 (b) 0 = _ from h1]; rfl
theorem RZ.r_aP2 (R : RZ b A M o L V) : g_rR L V 3 (b) 2 = some (some (b + 2)) := by
  have h1 := R.qd (zP.aP 2) (by simp [zv])
  simp only [g_rR, show g_rd L V 3 (b) 2 = _ from h1]; rfl
theorem RZ.r_aP4 (R : RZ b A M o L V) : g_rR L V 3 (b) 4 = some (some (b + 3)) := by
  have h1 := R.qd (zP.aP 4) (by simp [zv])
  simp only [g_rR, show g_rd L V 3 (b) 4 = _ from h1]; rfl
theorem RZ.r_aP5 (R : RZ b A M o L V) : g_rR L V 3 (b) 5 = some (some (b + 4)) := by
  have h1 := R.qd (zP.aP 5) (by simp [zv])
  simp only [g_rR, show g_rd L V 3 (b) 5 = _ from h1]; rfl
theorem RZ.r_aN (R : RZ b A M o L V) {j : Nat} (h : (j = 1 ∨ j = 3)) : g_rI L V 3 (b) j = some (nI (if j = 1 then A.1.1.1.1 else A.1.1.1.2)) := by
  have h1 := R.qd (zP.aN j) h
  simp only [g_rI, show g_rd L V 3 (b) (j) = _ from h1]; rfl
theorem RZ.r_aI (R : RZ b A M o L V) : g_rI L V 3 (b) 6 = some A.1.2.2.2.2 := by
  have h1 := R.qd (zP.aI) trivial
  simp only [g_rI, show g_rd L V 3 (b) (6) = _ from h1]; rfl
theorem RZ.r_af (R : RZ b A M o L V) {f : Nat} (h : f < A.1.1.1.1 ∧ f < 16) : g_aR L V 103 (b + 1) (nI (f)) = some (some (A.1.1.2.1 f)) := by
  have h1 := R.qx (zP.af f) h
  have h2 := R.val (zP.af f) h
  simp only [g_aR, show g_ix L 103 (b + 1) (nI (f)) = _ from h1, Option.bind]
  exact congrArg g_toR h2
theorem RZ.r_as (R : RZ b A M o L V) {s : Nat} (h : s < A.1.1.1.2 ∧ s < 16) : g_aR L V 104 (b + 2) (nI (s)) = some (some (A.1.1.2.2.1 s)) := by
  have h1 := R.qx (zP.aZ s) h
  have h2 := R.val (zP.aZ s) h
  simp only [g_aR, show g_ix L 104 (b + 2) (nI (s)) = _ from h1, Option.bind]
  exact congrArg g_toR h2
theorem RZ.r_ac (R : RZ b A M o L V) {i : Nat} (h : i < 5) : g_aI L V 100 (b + 3) (nI (i)) = some (A.1.2.2.1 i) := by
  have h1 := R.qx (zP.ac i) h
  have h2 := R.val (zP.ac i) h
  simp only [g_aI, show g_ix L 100 (b + 3) (nI (i)) = _ from h1, Option.bind]
  exact congrArg g_toI h2
theorem RZ.r_at (R : RZ b A M o L V) {i : Nat} (h : i < 4) : g_aI L V 100 (b + 4) (nI (i)) = some (A.1.2.2.2.1 i) := by
  have h1 := R.qx (zP.aQ i) h
  have h2 := R.val (zP.aQ i) h
  simp only [g_aI, show g_ix L 100 (b + 4) (nI (i)) = _ from h1, Option.bind]
  exact congrArg g_toI h2
theorem RZ.r_fZ (R : RZ b A M o L V) {f : Nat} (h : f < A.1.1.1.1) : g_rI L V 1 (A.1.1.2.1 f) 0 = some (bI (A.1.1.2.2.2 f)) := by
  have h1 := R.qd (zP.fZ f) h
  simp only [g_rI, show g_rd L V 1 (A.1.1.2.1 f) (0) = _ from h1]; rfl
theorem RZ.r_fJ (R : RZ b A M o L V) {f : Nat} (h : f < A.1.1.1.1) : g_rJ L V 1 (A.1.1.2.1 f) 1 = some (A.1.2.1.1 f) := by
  have h1 := R.qd (zP.fJ f) h
  simp only [g_rJ, show g_rd L V 1 (A.1.1.2.1 f) (1) = _ from h1]; rfl
theorem RZ.r_fI (R : RZ b A M o L V) {f : Nat} (h : f < A.1.1.1.1) : g_rI L V 1 (A.1.1.2.1 f) 2 = some (A.1.2.1.2 f) := by
  have h1 := R.qd (zP.fI f) h
  simp only [g_rI, show g_rd L V 1 (A.1.1.2.1 f) (2) = _ from h1]; rfl
theorem RZ.r_sJ (R : RZ b A M o L V) {j s : Nat} (h : s < A.1.1.1.2 ∧ (j = 0 ∨ j = 1)) : g_rJ L V 2 (A.1.1.2.2.1 s) j = some (A.2.1.1.1 j s) := by
  have h1 := R.qd (zP.sJ j s) h
  simp only [g_rJ, show g_rd L V 2 (A.1.1.2.2.1 s) (j) = _ from h1]; rfl
theorem RZ.r_sP2 (R : RZ b A M o L V) {s : Nat} (h : s < A.1.1.1.2) : g_rR L V 2 (A.1.1.2.2.1 s) 2 = some (some (A.1.1.2.2.1 s + 1)) := by
  have h1 := R.qd (zP.sP 2 s) (by simp [zv, h])
  simp only [g_rR, show g_rd L V 2 (A.1.1.2.2.1 s) 2 = _ from h1]; rfl
theorem RZ.r_sP4 (R : RZ b A M o L V) {s : Nat} (h : s < A.1.1.1.2) : g_rR L V 2 (A.1.1.2.2.1 s) 4 = some (some (A.1.1.2.2.1 s + 2)) := by
  have h1 := R.qd (zP.sP 4 s) (by simp [zv, h])
  simp only [g_rR, show g_rd L V 2 (A.1.1.2.2.1 s) 4 = _ from h1]; rfl
theorem RZ.r_sN (R : RZ b A M o L V) {j s : Nat} (h : s < A.1.1.1.2 ∧ (j = 3 ∨ j = 5)) : g_rI L V 2 (A.1.1.2.2.1 s) j = some (nI (A.2.1.1.2 j s)) := by
  have h1 := R.qd (zP.sN j s) h
  simp only [g_rI, show g_rd L V 2 (A.1.1.2.2.1 s) (j) = _ from h1]; rfl
theorem RZ.r_sZ (R : RZ b A M o L V) {j s : Nat} (h : s < A.1.1.1.2 ∧ (j = 6 ∨ j = 7 ∨ j = 8)) : g_rI L V 2 (A.1.1.2.2.1 s) j = some (bI (A.2.1.2.1 j s)) := by
  have h1 := R.qd (zP.sZ j s) h
  simp only [g_rI, show g_rd L V 2 (A.1.1.2.2.1 s) (j) = _ from h1]; rfl
theorem RZ.r_sI (R : RZ b A M o L V) {j s : Nat} (h : s < A.1.1.1.2 ∧ (j = 9 ∨ j = 10)) : g_rI L V 2 (A.1.1.2.2.1 s) j = some (A.2.1.2.2.1 j s) := by
  have h1 := R.qd (zP.sI j s) h
  simp only [g_rI, show g_rd L V 2 (A.1.1.2.2.1 s) (j) = _ from h1]; rfl
theorem RZ.r_sr (R : RZ b A M o L V) {s i : Nat} (h : s < A.1.1.1.2 ∧ i < 6) : g_aI L V 100 (A.1.1.2.2.1 s + 1) (nI (i)) = some (nI (A.2.1.2.2.2 s i)) := by
  have h1 := R.qx (zP.sr s i) h
  have h2 := R.val (zP.sr s i) h
  simp only [g_aI, show g_ix L 100 (A.1.1.2.2.1 s + 1) (nI (i)) = _ from h1, Option.bind]
  exact congrArg g_toI h2
theorem RZ.r_se (R : RZ b A M o L V) {s k : Nat} (h : s < A.1.1.1.2 ∧ k < 4) : g_aR L V 105 (A.1.1.2.2.1 s + 2) (nI (k)) = some (some (A.1.1.2.2.1 s + 3 + 3 * A.2.2.1.1 s k)) := by
  have h1 := R.qx (zP.se s k) h
  have h2 := R.val (zP.se s k) h
  simp only [g_aR, show g_ix L 105 (A.1.1.2.2.1 s + 2) (nI (k)) = _ from h1, Option.bind]
  exact congrArg g_toR h2
theorem RZ.r_eP (R : RZ b A M o L V) {x s j : Nat} (h : s < A.1.1.1.2 ∧ j < 4 ∧ (x = 0 ∨ x = 1)) : g_rR L V 0 (A.1.1.2.2.1 s + 3 + 3 * j) x = some (some (A.1.1.2.2.1 s + 4 + 3 * j + x)) := by
  have h1 := R.qd (zP.eP x s j) h
  simp only [g_rR, show g_rd L V 0 (A.1.1.2.2.1 s + 3 + 3 * j) (x) = _ from h1]; rfl
theorem RZ.r_eI (R : RZ b A M o L V) {s j : Nat} (h : s < A.1.1.1.2 ∧ j < 4) : g_rI L V 0 (A.1.1.2.2.1 s + 3 + 3 * j) 2 = some (A.2.2.1.2 s j) := by
  have h1 := R.qd (zP.eI s j) h
  simp only [g_rI, show g_rd L V 0 (A.1.1.2.2.1 s + 3 + 3 * j) (2) = _ from h1]; rfl
theorem RZ.r_eJ (R : RZ b A M o L V) {x s j : Nat} (h : s < A.1.1.1.2 ∧ j < 4 ∧ (x = 3 ∨ x = 4)) : g_rJ L V 0 (A.1.1.2.2.1 s + 3 + 3 * j) x = some (A.2.2.2.1 x s j) := by
  have h1 := R.qd (zP.eJ x s j) h
  simp only [g_rJ, show g_rd L V 0 (A.1.1.2.2.1 s + 3 + 3 * j) (x) = _ from h1]; rfl
theorem RZ.r_eH (R : RZ b A M o L V) {s j i : Nat} (h : s < A.1.1.1.2 ∧ j < 4 ∧ i < 6) : g_aI L V 102 (A.1.1.2.2.1 s + 4 + 3 * j + 0) (nI (i)) = some (bI (A.2.2.2.2.1 s j i)) := by
  have h1 := R.qx (zP.eH s j i) h
  have h2 := R.val (zP.eH s j i) h
  simp only [g_aI, show g_ix L 102 (A.1.1.2.2.1 s + 4 + 3 * j + 0) (nI (i)) = _ from h1, Option.bind]
  exact congrArg g_toI h2
theorem RZ.r_eW (R : RZ b A M o L V) {s j i : Nat} (h : s < A.1.1.1.2 ∧ j < 4 ∧ i < 6) : g_aJ L V 101 (A.1.1.2.2.1 s + 4 + 3 * j + 1) (nI (i)) = some (A.2.2.2.2.2 s j i) := by
  have h1 := R.qx (zP.eW s j i) h
  have h2 := R.val (zP.eW s j i) h
  simp only [g_aJ, show g_ix L 101 (A.1.1.2.2.1 s + 4 + 3 * j + 1) (nI (i)) = _ from h1, Option.bind]
  exact congrArg g_toJ h2
theorem RZ.r_mo (R : RZ b A M o L V) {j : Nat} (h : (j = 0 ∨ j = 23 ∨ j = 24)) : g_rI L V 4 (b + 5) j = some (M.1.1.1 j) := by
  have h1 := R.qd (zP.mo j) h
  simp only [g_rI, show g_rd L V 4 (b + 5) (j) = _ from h1]; rfl
theorem RZ.r_mC (R : RZ b A M o L V) {j : Nat} (h : (j = 1 ∨ j = 2)) : g_rI L V 4 (b + 5) j = some (nI (M.1.1.2.1 j)) := by
  have h1 := R.qd (zP.mC j) h
  simp only [g_rI, show g_rd L V 4 (b + 5) (j) = _ from h1]; rfl
theorem RZ.r_mP (R : RZ b A M o L V) {j : Nat} (h : 3 ≤ j ∧ j < 23) : g_rR L V 4 (b + 5) j = some (some (b + 3 + j)) := by
  have h1 := R.qd (zP.mP j) h
  simp only [g_rR, show g_rd L V 4 (b + 5) (j) = _ from h1]; rfl
theorem RZ.r_mJ (R : RZ b A M o L V) {q s : Nat} (h : (q = 3 ∨ q = 4 ∨ q = 5) ∧ s < 16) : g_aJ L V 101 (b + 3 + q) (nI (s)) = some (M.1.1.2.2 q s) := by
  have h1 := R.qx (zP.mJ q s) h
  have h2 := R.val (zP.mJ q s) h
  simp only [g_aJ, show g_ix L 101 (b + 3 + q) (nI (s)) = _ from h1, Option.bind]
  exact congrArg g_toJ h2
theorem RZ.r_mZ (R : RZ b A M o L V) {q s : Nat} (h : (q = 6 ∨ q = 7 ∨ q = 21 ∨ q = 22) ∧ s < 16) : g_aI L V 102 (b + 3 + q) (nI (s)) = some (bI (M.1.2.1 q s)) := by
  have h1 := R.qx (zP.mZ q s) h
  have h2 := R.val (zP.mZ q s) h
  simp only [g_aI, show g_ix L 102 (b + 3 + q) (nI (s)) = _ from h1, Option.bind]
  exact congrArg g_toI h2
theorem RZ.r_mI (R : RZ b A M o L V) {q s : Nat} (h : (q = 8 ∨ q = 17 ∨ q = 18) ∧ s < 16) : g_aI L V 100 (b + 3 + q) (nI (s)) = some (M.1.2.2.1 q s) := by
  have h1 := R.qx (zP.mI q s) h
  have h2 := R.val (zP.mI q s) h
  simp only [g_aI, show g_ix L 100 (b + 3 + q) (nI (s)) = _ from h1, Option.bind]
  exact congrArg g_toI h2
theorem RZ.r_mc (R : RZ b A M o L V) {i : Nat} (h : i < 5) : g_aI L V 100 (b + 3 + 19) (nI (i)) = some (M.1.2.2.2 i) := by
  have h1 := R.qx (zP.mc i) h
  have h2 := R.val (zP.mc i) h
  simp only [g_aI, show g_ix L 100 (b + 3 + 19) (nI (i)) = _ from h1, Option.bind]
  exact congrArg g_toI h2
theorem RZ.r_mt (R : RZ b A M o L V) {i : Nat} (h : i < 4) : g_aI L V 100 (b + 3 + 20) (nI (i)) = some (M.2.1.1 i) := by
  have h1 := R.qx (zP.mt i) h
  have h2 := R.val (zP.mt i) h
  simp only [g_aI, show g_ix L 100 (b + 3 + 20) (nI (i)) = _ from h1, Option.bind]
  exact congrArg g_toI h2
theorem RZ.r_mN (R : RZ b A M o L V) {q s : Nat} (h : (q = 9 ∨ q = 12) ∧ s < 16) : g_aI L V 100 (b + 3 + q) (nI (s)) = some (nI (M.2.1.2.1 q s)) := by
  have h1 := R.qx (zP.mN q s) h
  have h2 := R.val (zP.mN q s) h
  simp only [g_aI, show g_ix L 100 (b + 3 + q) (nI (s)) = _ from h1, Option.bind]
  exact congrArg g_toI h2
theorem RZ.r_mR (R : RZ b A M o L V) {q s i : Nat} (h : (q = 10 ∨ q = 11) ∧ s < 16 ∧ i < 6) : g_aI L V 100 (b + 3 + q) (nI (6 * s + i)) = some (nI (M.2.1.2.2 q s i)) := by
  have h1 := R.qx (zP.mR q s i) h
  have h2 := R.val (zP.mR q s i) h
  simp only [g_aI, show g_ix L 100 (b + 3 + q) (nI (6 * s + i)) = _ from h1, Option.bind]
  exact congrArg g_toI h2
theorem RZ.r_mF (R : RZ b A M o L V) {s k : Nat} (h : s < 16 ∧ k < 4) : g_aI L V 100 (b + 3 + 13) (nI (4 * s + k)) = some (M.2.2.1.1 s k) := by
  have h1 := R.qx (zP.mF s k) h
  have h2 := R.val (zP.mF s k) h
  simp only [g_aI, show g_ix L 100 (b + 3 + 13) (nI (4 * s + k)) = _ from h1, Option.bind]
  exact congrArg g_toI h2
theorem RZ.r_mB (R : RZ b A M o L V) {s k : Nat} (h : s < 16 ∧ k < 4) : g_aJ L V 101 (b + 3 + 14) (nI (4 * s + k)) = some (M.2.2.1.2 s k) := by
  have h1 := R.qx (zP.mB s k) h
  have h2 := R.val (zP.mB s k) h
  simp only [g_aJ, show g_ix L 101 (b + 3 + 14) (nI (4 * s + k)) = _ from h1, Option.bind]
  exact congrArg g_toJ h2
theorem RZ.r_mW (R : RZ b A M o L V) {s k i : Nat} (h : s < 16 ∧ k < 4 ∧ i < 6) : g_aJ L V 101 (b + 3 + 15) (nI (6 * (4 * s + k) + i)) = some (M.2.2.2.1 s k i) := by
  have h1 := R.qx (zP.mW s k i) h
  have h2 := R.val (zP.mW s k i) h
  simp only [g_aJ, show g_ix L 101 (b + 3 + 15) (nI (6 * (4 * s + k) + i)) = _ from h1, Option.bind]
  exact congrArg g_toJ h2
theorem RZ.r_mH (R : RZ b A M o L V) {s k i : Nat} (h : s < 16 ∧ k < 4 ∧ i < 6) : g_aI L V 102 (b + 3 + 16) (nI (6 * (4 * s + k) + i)) = some (bI (M.2.2.2.2 s k i)) := by
  have h1 := R.qx (zP.mH s k i) h
  have h2 := R.val (zP.mH s k i) h
  simp only [g_aI, show g_ix L 102 (b + 3 + 16) (nI (6 * (4 * s + k) + i)) = _ from h1, Option.bind]
  exact congrArg g_toI h2
theorem RZ.r_ou (R : RZ b A M o L V) : g_aJ L V 101 (b + 26) (nI (0)) = some o := by
  have h1 := R.qx (zP.ou) trivial
  have h2 := R.val (zP.ou) trivial
  simp only [g_aJ, show g_ix L 101 (b + 26) (nI (0)) = _ from h1, Option.bind]
  exact congrArg g_toJ h2
theorem RZ.z_3 (R : RZ b A M o L V) : L.2 3 (b) = some 7 := R.siz (zP.aI) (by simp [zv])
theorem RZ.z_4 (R : RZ b A M o L V) : L.2 4 (b + 5) = some 25 := R.siz (zP.mo 0) (by simp [zv])
theorem RZ.z_2 (R : RZ b A M o L V) {s : Nat} (h : s < A.1.1.1.2) : L.2 2 (A.1.1.2.2.1 s) = some 11 := R.siz (zP.sN 3 s) (by simp [zv, h])
theorem RZ.z_0 (R : RZ b A M o L V) {s j : Nat} (h : s < A.1.1.1.2 ∧ j < 4) : L.2 0 (A.1.1.2.2.1 s + 3 + 3 * j) = some 5 := R.siz (zP.eI s j) (by simp [zv, h])
theorem RZ.z_1 (R : RZ b A M o L V) {f : Nat} (h : f < A.1.1.1.1) : L.2 1 (A.1.1.2.1 f) = some 3 := R.siz (zP.fI f) (by simp [zv, h])
theorem RZ.w_aI (R : RZ b A M o L V) (x : Int32) : ∃ V1, g_wr L V 3 (b) (6) (tI x) = some V1 ∧ RZ b { A with fst.snd.snd.snd.snd := x } M o L V1 := by
  have h1 := R.siz (zP.aI) trivial
  have h2 : 6 < 7 := z_lt (A := A) (p := (zP.aI)) trivial
  have h3 : g_wr L V 3 (b) (6) (tI x) = some (g_st V 3 (b) (6) (tI x)) := by simp only [g_wr, show L.2 3 (b) = some 7 from h1, h2, if_true]
  refine ⟨_, h3, R.put (zP.aI) trivial rfl rfl rfl rfl rfl ?_⟩
  intro p z_v
  cases p using zP_cas
  case aI => exact Or.inl rfl
  all_goals exact Or.inr rfl
theorem RZ.w_ac (R : RZ b A M o L V) {i : Nat} (h : i < 5) (x : Int32) : ∃ V1, g_wa L V 100 (b + 3) (nI (i)) (tI x) = some V1 ∧ RZ b { A with fst.snd.snd.fst := up1 A.1.2.2.1 i x } M o L V1 := by
  have h1 := R.qx (zP.ac i) h
  have h3 : g_wa L V 100 (b + 3) (nI (i)) (tI x) = some (g_st V 100 (b + 3) (i) (tI x)) := by simp only [g_wa, show g_ix L 100 (b + 3) (nI (i)) = _ from h1, Option.bind]; rfl
  refine ⟨_, h3, R.put (zP.ac i) h rfl rfl rfl rfl (by simp [zc, up1, up2, up3]) ?_⟩
  intro p z_v
  cases p using zP_cas
  case ac i1 =>
    by_cases e : i1 = i
    · left; subst e; rfl
    · right; simp only [zc, up1, up2, up3]; rw [if_neg e]
  all_goals exact Or.inr rfl
theorem RZ.w_at (R : RZ b A M o L V) {i : Nat} (h : i < 4) (x : Int32) : ∃ V1, g_wa L V 100 (b + 4) (nI (i)) (tI x) = some V1 ∧ RZ b { A with fst.snd.snd.snd.fst := up1 A.1.2.2.2.1 i x } M o L V1 := by
  have h1 := R.qx (zP.aQ i) h
  have h3 : g_wa L V 100 (b + 4) (nI (i)) (tI x) = some (g_st V 100 (b + 4) (i) (tI x)) := by simp only [g_wa, show g_ix L 100 (b + 4) (nI (i)) = _ from h1, Option.bind]; rfl
  refine ⟨_, h3, R.put (zP.aQ i) h rfl rfl rfl rfl (by simp [zc, up1, up2, up3]) ?_⟩
  intro p z_v
  cases p using zP_cas
  case aQ i1 =>
    by_cases e : i1 = i
    · left; subst e; rfl
    · right; simp only [zc, up1, up2, up3]; rw [if_neg e]
  all_goals exact Or.inr rfl
theorem RZ.w_fZ (R : RZ b A M o L V) {f : Nat} (h : f < A.1.1.1.1) (x : Bool) : ∃ V1, g_wr L V 1 (A.1.1.2.1 f) (0) (tI (bI x)) = some V1 ∧ RZ b { A with fst.fst.snd.snd.snd := up1 A.1.1.2.2.2 f x } M o L V1 := by
  have h1 := R.siz (zP.fZ f) h
  have h2 : 0 < 3 := z_lt (A := A) (p := (zP.fZ f)) h
  have h3 : g_wr L V 1 (A.1.1.2.1 f) (0) (tI (bI x)) = some (g_st V 1 (A.1.1.2.1 f) (0) (tI (bI x))) := by simp only [g_wr, show L.2 1 (A.1.1.2.1 f) = some 3 from h1, h2, if_true]
  refine ⟨_, h3, R.put (zP.fZ f) h rfl rfl rfl rfl (by simp [zc, up1, up2, up3]) ?_⟩
  intro p z_v
  cases p using zP_cas
  case fZ f1 =>
    by_cases e : f1 = f
    · left; subst e; rfl
    · right; simp only [zc, up1, up2, up3]; rw [if_neg e]
  all_goals exact Or.inr rfl
theorem RZ.w_fJ (R : RZ b A M o L V) {f : Nat} (h : f < A.1.1.1.1) (x : Int64) : ∃ V1, g_wr L V 1 (A.1.1.2.1 f) (1) (tJ x) = some V1 ∧ RZ b { A with fst.snd.fst.fst := up1 A.1.2.1.1 f x } M o L V1 := by
  have h1 := R.siz (zP.fJ f) h
  have h2 : 1 < 3 := z_lt (A := A) (p := (zP.fJ f)) h
  have h3 : g_wr L V 1 (A.1.1.2.1 f) (1) (tJ x) = some (g_st V 1 (A.1.1.2.1 f) (1) (tJ x)) := by simp only [g_wr, show L.2 1 (A.1.1.2.1 f) = some 3 from h1, h2, if_true]
  refine ⟨_, h3, R.put (zP.fJ f) h rfl rfl rfl rfl (by simp [zc, up1, up2, up3]) ?_⟩
  intro p z_v
  cases p using zP_cas
  case fJ f1 =>
    by_cases e : f1 = f
    · left; subst e; rfl
    · right; simp only [zc, up1, up2, up3]; rw [if_neg e]
  all_goals exact Or.inr rfl
theorem RZ.w_fI (R : RZ b A M o L V) {f : Nat} (h : f < A.1.1.1.1) (x : Int32) : ∃ V1, g_wr L V 1 (A.1.1.2.1 f) (2) (tI x) = some V1 ∧ RZ b { A with fst.snd.fst.snd := up1 A.1.2.1.2 f x } M o L V1 := by
  have h1 := R.siz (zP.fI f) h
  have h2 : 2 < 3 := z_lt (A := A) (p := (zP.fI f)) h
  have h3 : g_wr L V 1 (A.1.1.2.1 f) (2) (tI x) = some (g_st V 1 (A.1.1.2.1 f) (2) (tI x)) := by simp only [g_wr, show L.2 1 (A.1.1.2.1 f) = some 3 from h1, h2, if_true]
  refine ⟨_, h3, R.put (zP.fI f) h rfl rfl rfl rfl (by simp [zc, up1, up2, up3]) ?_⟩
  intro p z_v
  cases p using zP_cas
  case fI f1 =>
    by_cases e : f1 = f
    · left; subst e; rfl
    · right; simp only [zc, up1, up2, up3]; rw [if_neg e]
  all_goals exact Or.inr rfl
theorem RZ.w_sN (R : RZ b A M o L V) {j s : Nat} (h : s < A.1.1.1.2 ∧ (j = 3 ∨ j = 5)) (x : Nat) : ∃ V1, g_wr L V 2 (A.1.1.2.2.1 s) (j) (tI (nI x)) = some V1 ∧ RZ b { A with snd.fst.fst.snd := up2 A.2.1.1.2 j s x } M o L V1 := by
  have h1 := R.siz (zP.sN j s) h
  have h2 : j < 11 := z_lt (A := A) (p := (zP.sN j s)) h
  have h3 : g_wr L V 2 (A.1.1.2.2.1 s) (j) (tI (nI x)) = some (g_st V 2 (A.1.1.2.2.1 s) (j) (tI (nI x))) := by simp only [g_wr, show L.2 2 (A.1.1.2.2.1 s) = some 11 from h1, h2, if_true]
  refine ⟨_, h3, R.put (zP.sN j s) h rfl rfl rfl rfl (by simp [zc, up1, up2, up3]) ?_⟩
  intro p z_v
  cases p using zP_cas
  case sN j1 s1 =>
    by_cases e : j1 = j ∧ s1 = s
    · left; obtain ⟨rfl, rfl⟩ := e; rfl
    · right; simp only [zc, up1, up2, up3]; rw [if_neg e]
  all_goals exact Or.inr rfl
theorem RZ.w_sZ (R : RZ b A M o L V) {j s : Nat} (h : s < A.1.1.1.2 ∧ (j = 6 ∨ j = 7 ∨ j = 8)) (x : Bool) : ∃ V1, g_wr L V 2 (A.1.1.2.2.1 s) (j) (tI (bI x)) = some V1 ∧ RZ b { A with snd.fst.snd.fst := up2 A.2.1.2.1 j s x } M o L V1 := by
  have h1 := R.siz (zP.sZ j s) h
  have h2 : j < 11 := z_lt (A := A) (p := (zP.sZ j s)) h
  have h3 : g_wr L V 2 (A.1.1.2.2.1 s) (j) (tI (bI x)) = some (g_st V 2 (A.1.1.2.2.1 s) (j) (tI (bI x))) := by simp only [g_wr, show L.2 2 (A.1.1.2.2.1 s) = some 11 from h1, h2, if_true]
  refine ⟨_, h3, R.put (zP.sZ j s) h rfl rfl rfl rfl (by simp [zc, up1, up2, up3]) ?_⟩
  intro p z_v
  cases p using zP_cas
  case sZ j1 s1 =>
    by_cases e : j1 = j ∧ s1 = s
    · left; obtain ⟨rfl, rfl⟩ := e; rfl
    · right; simp only [zc, up1, up2, up3]; rw [if_neg e]
  all_goals exact Or.inr rfl
theorem RZ.w_sI (R : RZ b A M o L V) {j s : Nat} (h : s < A.1.1.1.2 ∧ (j = 9 ∨ j = 10)) (x : Int32) : ∃ V1, g_wr L V 2 (A.1.1.2.2.1 s) (j) (tI x) = some V1 ∧ RZ b { A with snd.fst.snd.snd.fst := up2 A.2.1.2.2.1 j s x } M o L V1 := by
  have h1 := R.siz (zP.sI j s) h
  have h2 : j < 11 := z_lt (A := A) (p := (zP.sI j s)) h
  have h3 : g_wr L V 2 (A.1.1.2.2.1 s) (j) (tI x) = some (g_st V 2 (A.1.1.2.2.1 s) (j) (tI x)) := by simp only [g_wr, show L.2 2 (A.1.1.2.2.1 s) = some 11 from h1, h2, if_true]
  refine ⟨_, h3, R.put (zP.sI j s) h rfl rfl rfl rfl (by simp [zc, up1, up2, up3]) ?_⟩
  intro p z_v
  cases p using zP_cas
  case sI j1 s1 =>
    by_cases e : j1 = j ∧ s1 = s
    · left; obtain ⟨rfl, rfl⟩ := e; rfl
    · right; simp only [zc, up1, up2, up3]; rw [if_neg e]
  all_goals exact Or.inr rfl
theorem RZ.w_sr (R : RZ b A M o L V) {s i : Nat} (h : s < A.1.1.1.2 ∧ i < 6) (x : Nat) : ∃ V1, g_wa L V 100 (A.1.1.2.2.1 s + 1) (nI (i)) (tI (nI x)) = some V1 ∧ RZ b { A with snd.fst.snd.snd.snd := up2 A.2.1.2.2.2 s i x } M o L V1 := by
  have h1 := R.qx (zP.sr s i) h
  have h3 : g_wa L V 100 (A.1.1.2.2.1 s + 1) (nI (i)) (tI (nI x)) = some (g_st V 100 (A.1.1.2.2.1 s + 1) (i) (tI (nI x))) := by simp only [g_wa, show g_ix L 100 (A.1.1.2.2.1 s + 1) (nI (i)) = _ from h1, Option.bind]; rfl
  refine ⟨_, h3, R.put (zP.sr s i) h rfl rfl rfl rfl (by simp [zc, up1, up2, up3]) ?_⟩
  intro p z_v
  cases p using zP_cas
  case sr s1 i1 =>
    by_cases e : s1 = s ∧ i1 = i
    · left; obtain ⟨rfl, rfl⟩ := e; rfl
    · right; simp only [zc, up1, up2, up3]; rw [if_neg e]
  all_goals exact Or.inr rfl
theorem RZ.w_se (R : RZ b A M o L V) {s k : Nat} (h : s < A.1.1.1.2 ∧ k < 4) (x : Nat) : ∃ V1, g_wa L V 105 (A.1.1.2.2.1 s + 2) (nI (k)) (tR (some (A.1.1.2.2.1 s + 3 + 3 * x))) = some V1 ∧ RZ b { A with snd.snd.fst.fst := up2 A.2.2.1.1 s k x } M o L V1 := by
  have h1 := R.qx (zP.se s k) h
  have h3 : g_wa L V 105 (A.1.1.2.2.1 s + 2) (nI (k)) (tR (some (A.1.1.2.2.1 s + 3 + 3 * x))) = some (g_st V 105 (A.1.1.2.2.1 s + 2) (k) (tR (some (A.1.1.2.2.1 s + 3 + 3 * x)))) := by simp only [g_wa, show g_ix L 105 (A.1.1.2.2.1 s + 2) (nI (k)) = _ from h1, Option.bind]; rfl
  refine ⟨_, h3, R.put (zP.se s k) h rfl rfl rfl rfl (by simp [zc, up1, up2, up3]) ?_⟩
  intro p z_v
  cases p using zP_cas
  case se s1 k1 =>
    by_cases e : s1 = s ∧ k1 = k
    · left; obtain ⟨rfl, rfl⟩ := e; rfl
    · right; simp only [zc, up1, up2, up3]; rw [if_neg e]
  all_goals exact Or.inr rfl
theorem RZ.w_eI (R : RZ b A M o L V) {s j : Nat} (h : s < A.1.1.1.2 ∧ j < 4) (x : Int32) : ∃ V1, g_wr L V 0 (A.1.1.2.2.1 s + 3 + 3 * j) (2) (tI x) = some V1 ∧ RZ b { A with snd.snd.fst.snd := up2 A.2.2.1.2 s j x } M o L V1 := by
  have h1 := R.siz (zP.eI s j) h
  have h2 : 2 < 5 := z_lt (A := A) (p := (zP.eI s j)) h
  have h3 : g_wr L V 0 (A.1.1.2.2.1 s + 3 + 3 * j) (2) (tI x) = some (g_st V 0 (A.1.1.2.2.1 s + 3 + 3 * j) (2) (tI x)) := by simp only [g_wr, show L.2 0 (A.1.1.2.2.1 s + 3 + 3 * j) = some 5 from h1, h2, if_true]
  refine ⟨_, h3, R.put (zP.eI s j) h rfl rfl rfl rfl (by simp [zc, up1, up2, up3]) ?_⟩
  intro p z_v
  cases p using zP_cas
  case eI s1 j1 =>
    by_cases e : s1 = s ∧ j1 = j
    · left; obtain ⟨rfl, rfl⟩ := e; rfl
    · right; simp only [zc, up1, up2, up3]; rw [if_neg e]
  all_goals exact Or.inr rfl
theorem RZ.w_eJ (R : RZ b A M o L V) {x s j : Nat} (h : s < A.1.1.1.2 ∧ j < 4 ∧ (x = 3 ∨ x = 4)) (v : Int64) : ∃ V1, g_wr L V 0 (A.1.1.2.2.1 s + 3 + 3 * j) (x) (tJ v) = some V1 ∧ RZ b { A with snd.snd.snd.fst := up3 A.2.2.2.1 x s j v } M o L V1 := by
  have h1 := R.siz (zP.eJ x s j) h
  have h2 : x < 5 := z_lt (A := A) (p := (zP.eJ x s j)) h
  have h3 : g_wr L V 0 (A.1.1.2.2.1 s + 3 + 3 * j) (x) (tJ v) = some (g_st V 0 (A.1.1.2.2.1 s + 3 + 3 * j) (x) (tJ v)) := by simp only [g_wr, show L.2 0 (A.1.1.2.2.1 s + 3 + 3 * j) = some 5 from h1, h2, if_true]
  refine ⟨_, h3, R.put (zP.eJ x s j) h rfl rfl rfl rfl (by simp [zc, up1, up2, up3]) ?_⟩
  intro p z_v
  cases p using zP_cas
  case eJ x1 s1 j1 =>
    by_cases e : x1 = x ∧ s1 = s ∧ j1 = j
    · left; obtain ⟨rfl, rfl, rfl⟩ := e; rfl
    · right; simp only [zc, up1, up2, up3]; rw [if_neg e]
  all_goals exact Or.inr rfl
theorem RZ.w_eH (R : RZ b A M o L V) {s j i : Nat} (h : s < A.1.1.1.2 ∧ j < 4 ∧ i < 6) (x : Bool) : ∃ V1, g_wa L V 102 (A.1.1.2.2.1 s + 4 + 3 * j + 0) (nI (i)) (tI (bI x)) = some V1 ∧ RZ b { A with snd.snd.snd.snd.fst := up3 A.2.2.2.2.1 s j i x } M o L V1 := by
  have h1 := R.qx (zP.eH s j i) h
  have h3 : g_wa L V 102 (A.1.1.2.2.1 s + 4 + 3 * j + 0) (nI (i)) (tI (bI x)) = some (g_st V 102 (A.1.1.2.2.1 s + 4 + 3 * j + 0) (i) (tI (bI x))) := by simp only [g_wa, show g_ix L 102 (A.1.1.2.2.1 s + 4 + 3 * j + 0) (nI (i)) = _ from h1, Option.bind]; rfl
  refine ⟨_, h3, R.put (zP.eH s j i) h rfl rfl rfl rfl (by simp [zc, up1, up2, up3]) ?_⟩
  intro p z_v
  cases p using zP_cas
  case eH s1 j1 i1 =>
    by_cases e : s1 = s ∧ j1 = j ∧ i1 = i
    · left; obtain ⟨rfl, rfl, rfl⟩ := e; rfl
    · right; simp only [zc, up1, up2, up3]; rw [if_neg e]
  all_goals exact Or.inr rfl
theorem RZ.w_eW (R : RZ b A M o L V) {s j i : Nat} (h : s < A.1.1.1.2 ∧ j < 4 ∧ i < 6) (x : Int64) : ∃ V1, g_wa L V 101 (A.1.1.2.2.1 s + 4 + 3 * j + 1) (nI (i)) (tJ x) = some V1 ∧ RZ b { A with snd.snd.snd.snd.snd := up3 A.2.2.2.2.2 s j i x } M o L V1 := by
  have h1 := R.qx (zP.eW s j i) h
  have h3 : g_wa L V 101 (A.1.1.2.2.1 s + 4 + 3 * j + 1) (nI (i)) (tJ x) = some (g_st V 101 (A.1.1.2.2.1 s + 4 + 3 * j + 1) (i) (tJ x)) := by simp only [g_wa, show g_ix L 101 (A.1.1.2.2.1 s + 4 + 3 * j + 1) (nI (i)) = _ from h1, Option.bind]; rfl
  refine ⟨_, h3, R.put (zP.eW s j i) h rfl rfl rfl rfl (by simp [zc, up1, up2, up3]) ?_⟩
  intro p z_v
  cases p using zP_cas
  case eW s1 j1 i1 =>
    by_cases e : s1 = s ∧ j1 = j ∧ i1 = i
    · left; obtain ⟨rfl, rfl, rfl⟩ := e; rfl
    · right; simp only [zc, up1, up2, up3]; rw [if_neg e]
  all_goals exact Or.inr rfl
theorem RZ.w_mo (R : RZ b A M o L V) {j : Nat} (h : (j = 0 ∨ j = 23 ∨ j = 24)) (x : Int32) : ∃ V1, g_wr L V 4 (b + 5) (j) (tI x) = some V1 ∧ RZ b A { M with fst.fst.fst := up1 M.1.1.1 j x } o L V1 := by
  have h1 := R.siz (zP.mo j) h
  have h2 : j < 25 := z_lt (A := A) (p := (zP.mo j)) h
  have h3 : g_wr L V 4 (b + 5) (j) (tI x) = some (g_st V 4 (b + 5) (j) (tI x)) := by simp only [g_wr, show L.2 4 (b + 5) = some 25 from h1, h2, if_true]
  refine ⟨_, h3, R.put (zP.mo j) h rfl rfl rfl rfl (by simp [zc, up1, up2, up3]) ?_⟩
  intro p z_v
  cases p using zP_cas
  case mo j1 =>
    by_cases e : j1 = j
    · left; subst e; rfl
    · right; simp only [zc, up1, up2, up3]; rw [if_neg e]
  all_goals exact Or.inr rfl
theorem RZ.w_mC (R : RZ b A M o L V) {j : Nat} (h : (j = 1 ∨ j = 2)) (x : Nat) : ∃ V1, g_wr L V 4 (b + 5) (j) (tI (nI x)) = some V1 ∧ RZ b A { M with fst.fst.snd.fst := up1 M.1.1.2.1 j x } o L V1 := by
  have h1 := R.siz (zP.mC j) h
  have h2 : j < 25 := z_lt (A := A) (p := (zP.mC j)) h
  have h3 : g_wr L V 4 (b + 5) (j) (tI (nI x)) = some (g_st V 4 (b + 5) (j) (tI (nI x))) := by simp only [g_wr, show L.2 4 (b + 5) = some 25 from h1, h2, if_true]
  refine ⟨_, h3, R.put (zP.mC j) h rfl rfl rfl rfl (by simp [zc, up1, up2, up3]) ?_⟩
  intro p z_v
  cases p using zP_cas
  case mC j1 =>
    by_cases e : j1 = j
    · left; subst e; rfl
    · right; simp only [zc, up1, up2, up3]; rw [if_neg e]
  all_goals exact Or.inr rfl
theorem RZ.w_mJ (R : RZ b A M o L V) {q s : Nat} (h : (q = 3 ∨ q = 4 ∨ q = 5) ∧ s < 16) (x : Int64) : ∃ V1, g_wa L V 101 (b + 3 + q) (nI (s)) (tJ x) = some V1 ∧ RZ b A { M with fst.fst.snd.snd := up2 M.1.1.2.2 q s x } o L V1 := by
  have h1 := R.qx (zP.mJ q s) h
  have h3 : g_wa L V 101 (b + 3 + q) (nI (s)) (tJ x) = some (g_st V 101 (b + 3 + q) (s) (tJ x)) := by simp only [g_wa, show g_ix L 101 (b + 3 + q) (nI (s)) = _ from h1, Option.bind]; rfl
  refine ⟨_, h3, R.put (zP.mJ q s) h rfl rfl rfl rfl (by simp [zc, up1, up2, up3]) ?_⟩
  intro p z_v
  cases p using zP_cas
  case mJ q1 s1 =>
    by_cases e : q1 = q ∧ s1 = s
    · left; obtain ⟨rfl, rfl⟩ := e; rfl
    · right; simp only [zc, up1, up2, up3]; rw [if_neg e]
  all_goals exact Or.inr rfl
theorem RZ.w_mZ (R : RZ b A M o L V) {q s : Nat} (h : (q = 6 ∨ q = 7 ∨ q = 21 ∨ q = 22) ∧ s < 16) (x : Bool) : ∃ V1, g_wa L V 102 (b + 3 + q) (nI (s)) (tI (bI x)) = some V1 ∧ RZ b A { M with fst.snd.fst := up2 M.1.2.1 q s x } o L V1 := by
  have h1 := R.qx (zP.mZ q s) h
  have h3 : g_wa L V 102 (b + 3 + q) (nI (s)) (tI (bI x)) = some (g_st V 102 (b + 3 + q) (s) (tI (bI x))) := by simp only [g_wa, show g_ix L 102 (b + 3 + q) (nI (s)) = _ from h1, Option.bind]; rfl
  refine ⟨_, h3, R.put (zP.mZ q s) h rfl rfl rfl rfl (by simp [zc, up1, up2, up3]) ?_⟩
  intro p z_v
  cases p using zP_cas
  case mZ q1 s1 =>
    by_cases e : q1 = q ∧ s1 = s
    · left; obtain ⟨rfl, rfl⟩ := e; rfl
    · right; simp only [zc, up1, up2, up3]; rw [if_neg e]
  all_goals exact Or.inr rfl
theorem RZ.w_mI (R : RZ b A M o L V) {q s : Nat} (h : (q = 8 ∨ q = 17 ∨ q = 18) ∧ s < 16) (x : Int32) : ∃ V1, g_wa L V 100 (b + 3 + q) (nI (s)) (tI x) = some V1 ∧ RZ b A { M with fst.snd.snd.fst := up2 M.1.2.2.1 q s x } o L V1 := by
  have h1 := R.qx (zP.mI q s) h
  have h3 : g_wa L V 100 (b + 3 + q) (nI (s)) (tI x) = some (g_st V 100 (b + 3 + q) (s) (tI x)) := by simp only [g_wa, show g_ix L 100 (b + 3 + q) (nI (s)) = _ from h1, Option.bind]; rfl
  refine ⟨_, h3, R.put (zP.mI q s) h rfl rfl rfl rfl (by simp [zc, up1, up2, up3]) ?_⟩
  intro p z_v
  cases p using zP_cas
  case mI q1 s1 =>
    by_cases e : q1 = q ∧ s1 = s
    · left; obtain ⟨rfl, rfl⟩ := e; rfl
    · right; simp only [zc, up1, up2, up3]; rw [if_neg e]
  all_goals exact Or.inr rfl
theorem RZ.w_mc (R : RZ b A M o L V) {i : Nat} (h : i < 5) (x : Int32) : ∃ V1, g_wa L V 100 (b + 3 + 19) (nI (i)) (tI x) = some V1 ∧ RZ b A { M with fst.snd.snd.snd := up1 M.1.2.2.2 i x } o L V1 := by
  have h1 := R.qx (zP.mc i) h
  have h3 : g_wa L V 100 (b + 3 + 19) (nI (i)) (tI x) = some (g_st V 100 (b + 3 + 19) (i) (tI x)) := by simp only [g_wa, show g_ix L 100 (b + 3 + 19) (nI (i)) = _ from h1, Option.bind]; rfl
  refine ⟨_, h3, R.put (zP.mc i) h rfl rfl rfl rfl (by simp [zc, up1, up2, up3]) ?_⟩
  intro p z_v
  cases p using zP_cas
  case mc i1 =>
    by_cases e : i1 = i
    · left; subst e; rfl
    · right; simp only [zc, up1, up2, up3]; rw [if_neg e]
  all_goals exact Or.inr rfl
theorem RZ.w_mt (R : RZ b A M o L V) {i : Nat} (h : i < 4) (x : Int32) : ∃ V1, g_wa L V 100 (b + 3 + 20) (nI (i)) (tI x) = some V1 ∧ RZ b A { M with snd.fst.fst := up1 M.2.1.1 i x } o L V1 := by
  have h1 := R.qx (zP.mt i) h
  have h3 : g_wa L V 100 (b + 3 + 20) (nI (i)) (tI x) = some (g_st V 100 (b + 3 + 20) (i) (tI x)) := by simp only [g_wa, show g_ix L 100 (b + 3 + 20) (nI (i)) = _ from h1, Option.bind]; rfl
  refine ⟨_, h3, R.put (zP.mt i) h rfl rfl rfl rfl (by simp [zc, up1, up2, up3]) ?_⟩
  intro p z_v
  cases p using zP_cas
  case mt i1 =>
    by_cases e : i1 = i
    · left; subst e; rfl
    · right; simp only [zc, up1, up2, up3]; rw [if_neg e]
  all_goals exact Or.inr rfl
theorem RZ.w_mN (R : RZ b A M o L V) {q s : Nat} (h : (q = 9 ∨ q = 12) ∧ s < 16) (x : Nat) : ∃ V1, g_wa L V 100 (b + 3 + q) (nI (s)) (tI (nI x)) = some V1 ∧ RZ b A { M with snd.fst.snd.fst := up2 M.2.1.2.1 q s x } o L V1 := by
  have h1 := R.qx (zP.mN q s) h
  have h3 : g_wa L V 100 (b + 3 + q) (nI (s)) (tI (nI x)) = some (g_st V 100 (b + 3 + q) (s) (tI (nI x))) := by simp only [g_wa, show g_ix L 100 (b + 3 + q) (nI (s)) = _ from h1, Option.bind]; rfl
  refine ⟨_, h3, R.put (zP.mN q s) h rfl rfl rfl rfl (by simp [zc, up1, up2, up3]) ?_⟩
  intro p z_v
  cases p using zP_cas
  case mN q1 s1 =>
    by_cases e : q1 = q ∧ s1 = s
    · left; obtain ⟨rfl, rfl⟩ := e; rfl
    · right; simp only [zc, up1, up2, up3]; rw [if_neg e]
  all_goals exact Or.inr rfl
theorem RZ.w_mR (R : RZ b A M o L V) {q s i : Nat} (h : (q = 10 ∨ q = 11) ∧ s < 16 ∧ i < 6) (x : Nat) : ∃ V1, g_wa L V 100 (b + 3 + q) (nI (6 * s + i)) (tI (nI x)) = some V1 ∧ RZ b A { M with snd.fst.snd.snd := up3 M.2.1.2.2 q s i x } o L V1 := by
  have h1 := R.qx (zP.mR q s i) h
  have h3 : g_wa L V 100 (b + 3 + q) (nI (6 * s + i)) (tI (nI x)) = some (g_st V 100 (b + 3 + q) (6 * s + i) (tI (nI x))) := by simp only [g_wa, show g_ix L 100 (b + 3 + q) (nI (6 * s + i)) = _ from h1, Option.bind]; rfl
  refine ⟨_, h3, R.put (zP.mR q s i) h rfl rfl rfl rfl (by simp [zc, up1, up2, up3]) ?_⟩
  intro p z_v
  cases p using zP_cas
  case mR q1 s1 i1 =>
    by_cases e : q1 = q ∧ s1 = s ∧ i1 = i
    · left; obtain ⟨rfl, rfl, rfl⟩ := e; rfl
    · right; simp only [zc, up1, up2, up3]; rw [if_neg e]
  all_goals exact Or.inr rfl
theorem RZ.w_mF (R : RZ b A M o L V) {s k : Nat} (h : s < 16 ∧ k < 4) (x : Int32) : ∃ V1, g_wa L V 100 (b + 3 + 13) (nI (4 * s + k)) (tI x) = some V1 ∧ RZ b A { M with snd.snd.fst.fst := up2 M.2.2.1.1 s k x } o L V1 := by
  have h1 := R.qx (zP.mF s k) h
  have h3 : g_wa L V 100 (b + 3 + 13) (nI (4 * s + k)) (tI x) = some (g_st V 100 (b + 3 + 13) (4 * s + k) (tI x)) := by simp only [g_wa, show g_ix L 100 (b + 3 + 13) (nI (4 * s + k)) = _ from h1, Option.bind]; rfl
  refine ⟨_, h3, R.put (zP.mF s k) h rfl rfl rfl rfl (by simp [zc, up1, up2, up3]) ?_⟩
  intro p z_v
  cases p using zP_cas
  case mF s1 k1 =>
    by_cases e : s1 = s ∧ k1 = k
    · left; obtain ⟨rfl, rfl⟩ := e; rfl
    · right; simp only [zc, up1, up2, up3]; rw [if_neg e]
  all_goals exact Or.inr rfl
theorem RZ.w_mB (R : RZ b A M o L V) {s k : Nat} (h : s < 16 ∧ k < 4) (x : Int64) : ∃ V1, g_wa L V 101 (b + 3 + 14) (nI (4 * s + k)) (tJ x) = some V1 ∧ RZ b A { M with snd.snd.fst.snd := up2 M.2.2.1.2 s k x } o L V1 := by
  have h1 := R.qx (zP.mB s k) h
  have h3 : g_wa L V 101 (b + 3 + 14) (nI (4 * s + k)) (tJ x) = some (g_st V 101 (b + 3 + 14) (4 * s + k) (tJ x)) := by simp only [g_wa, show g_ix L 101 (b + 3 + 14) (nI (4 * s + k)) = _ from h1, Option.bind]; rfl
  refine ⟨_, h3, R.put (zP.mB s k) h rfl rfl rfl rfl (by simp [zc, up1, up2, up3]) ?_⟩
  intro p z_v
  cases p using zP_cas
  case mB s1 k1 =>
    by_cases e : s1 = s ∧ k1 = k
    · left; obtain ⟨rfl, rfl⟩ := e; rfl
    · right; simp only [zc, up1, up2, up3]; rw [if_neg e]
  all_goals exact Or.inr rfl
theorem RZ.w_mW (R : RZ b A M o L V) {s k i : Nat} (h : s < 16 ∧ k < 4 ∧ i < 6) (x : Int64) : ∃ V1, g_wa L V 101 (b + 3 + 15) (nI (6 * (4 * s + k) + i)) (tJ x) = some V1 ∧ RZ b A { M with snd.snd.snd.fst := up3 M.2.2.2.1 s k i x } o L V1 := by
  have h1 := R.qx (zP.mW s k i) h
  have h3 : g_wa L V 101 (b + 3 + 15) (nI (6 * (4 * s + k) + i)) (tJ x) = some (g_st V 101 (b + 3 + 15) (6 * (4 * s + k) + i) (tJ x)) := by simp only [g_wa, show g_ix L 101 (b + 3 + 15) (nI (6 * (4 * s + k) + i)) = _ from h1, Option.bind]; rfl
  refine ⟨_, h3, R.put (zP.mW s k i) h rfl rfl rfl rfl (by simp [zc, up1, up2, up3]) ?_⟩
  intro p z_v
  cases p using zP_cas
  case mW s1 k1 i1 =>
    by_cases e : s1 = s ∧ k1 = k ∧ i1 = i
    · left; obtain ⟨rfl, rfl, rfl⟩ := e; rfl
    · right; simp only [zc, up1, up2, up3]; rw [if_neg e]
  all_goals exact Or.inr rfl
theorem RZ.w_mH (R : RZ b A M o L V) {s k i : Nat} (h : s < 16 ∧ k < 4 ∧ i < 6) (x : Bool) : ∃ V1, g_wa L V 102 (b + 3 + 16) (nI (6 * (4 * s + k) + i)) (tI (bI x)) = some V1 ∧ RZ b A { M with snd.snd.snd.snd := up3 M.2.2.2.2 s k i x } o L V1 := by
  have h1 := R.qx (zP.mH s k i) h
  have h3 : g_wa L V 102 (b + 3 + 16) (nI (6 * (4 * s + k) + i)) (tI (bI x)) = some (g_st V 102 (b + 3 + 16) (6 * (4 * s + k) + i) (tI (bI x))) := by simp only [g_wa, show g_ix L 102 (b + 3 + 16) (nI (6 * (4 * s + k) + i)) = _ from h1, Option.bind]; rfl
  refine ⟨_, h3, R.put (zP.mH s k i) h rfl rfl rfl rfl (by simp [zc, up1, up2, up3]) ?_⟩
  intro p z_v
  cases p using zP_cas
  case mH s1 k1 i1 =>
    by_cases e : s1 = s ∧ k1 = k ∧ i1 = i
    · left; obtain ⟨rfl, rfl, rfl⟩ := e; rfl
    · right; simp only [zc, up1, up2, up3]; rw [if_neg e]
  all_goals exact Or.inr rfl
theorem RZ.w_ou (R : RZ b A M o L V) (x : Int64) : ∃ V1, g_wa L V 101 (b + 26) (nI (0)) (tJ x) = some V1 ∧ RZ b A M x L V1 := by
  have h1 := R.qx (zP.ou) trivial
  have h3 : g_wa L V 101 (b + 26) (nI (0)) (tJ x) = some (g_st V 101 (b + 26) (0) (tJ x)) := by simp only [g_wa, show g_ix L 101 (b + 26) (nI (0)) = _ from h1, Option.bind]; rfl
  refine ⟨_, h3, R.put (zP.ou) trivial rfl rfl rfl rfl rfl ?_⟩
  intro p z_v
  cases p using zP_cas
  case ou => exact Or.inl rfl
  all_goals exact Or.inr rfl
end
