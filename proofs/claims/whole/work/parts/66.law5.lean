def a_ad (A : vA) (s c : Nat) : vA := { A with snd.fst.snd.snd.snd := up2 A.2.1.2.2.2 s (A.2.1.1.2 3 s) c, snd.fst.fst.snd := up2 (up2 A.2.1.1.2 3 s (A.2.1.1.2 3 s + 1)) 5 s 0 }
def m_ad (M : vM) (s r p : Nat) : vM := { M with snd.fst.snd.snd := up3 (up3 M.2.1.2.2 10 s (M.2.1.2.1 9 s) r) 11 s (M.2.1.2.1 9 s) p, snd.fst.snd.fst := up2 (up2 M.2.1.2.1 9 s (M.2.1.2.1 9 s + 1)) 12 s 0 }
def a_hs (A : vA) (s c : Nat) : Bool := z_any (fun i => decide (A.2.1.2.2.2 s i = c)) 0 (A.2.1.1.2 3 s)
def m_hs (M : vM) (s r p : Nat) : Bool := z_any (fun i => decide (M.2.1.2.2 10 s i = r ∧ M.2.1.2.2 11 s i = p)) 0 (M.2.1.2.1 9 s)
theorem cp_hs {A : vA} {M : vM} {s r p : Nat} (C : Cp A M) (hs : s < A.1.1.1.2) (ok : (p = 2 ∧ r < A.1.1.1.1) ∨ (p < 2 ∧ r < s)) : a_hs A s (z_cd r p) = m_hs M s r p := by
  have h := C.S s hs
  have hn := C.W.nf
  unfold a_hs m_hs
  rw [h.nr]
  refine z_any_congr _ _ fun i _ hi => ?_
  have hi : i < A.2.1.1.2 3 s := by omega
  have o1 := h.ok i hi
  rw [h.rd i hi]
  refine decide_eq_decide.2 ⟨fun q => ?_, fun q => by rw [q.1, q.2]⟩
  unfold z_cd at q
  split at q <;> split at q <;> omega
theorem cp_ad {A : vA} {M : vM} {s r p : Nat} (C : Cp A M) (hs : s < A.1.1.1.2) (h6 : A.2.1.1.2 3 s < 6) (ok : (p = 2 ∧ r < A.1.1.1.1) ∨ (p < 2 ∧ r < s)) : Cp (a_ad A s (z_cd r p)) (m_ad M s r p) := by
  have h := C.S s hs
  have hn := C.W.nf
  have hns := C.W.ns
  have e9 : M.2.1.2.1 9 s = A.2.1.1.2 3 s := h.nr
  have z1 : (p = 2 → z_cd r p = r) ∧ (p < 2 → z_cd r p = 16 + 2 * r + p) := by
    unfold z_cd
    refine ⟨fun q => if_pos q, fun q => if_neg (by omega)⟩
  refine ⟨⟨C.W.nf, C.W.ns, ?_, ?_, ?_, C.W.pm⟩, ⟨C.V.nf, C.V.ns, ?_, ?_, ?_⟩, ⟨C.F.k1, C.F.k2, C.F.fz, C.F.fj, C.F.fi, C.F.fc, C.F.f0, ?_⟩, ?_, ⟨C.N.c, C.N.t, C.N.u, C.N.l⟩, C.c4⟩
  · intro t ht
    have := C.W.nr t ht
    show up2 (up2 A.2.1.1.2 3 s (A.2.1.1.2 3 s + 1)) 5 s 0 3 t ≤ 6
    by_cases q : t = s
    · subst q; simp only [up2]; simp; omega
    · simp [up2, q]; exact this
  · intro t ht
    have := C.W.nc t ht
    show up2 (up2 A.2.1.1.2 3 s (A.2.1.1.2 3 s + 1)) 5 s 0 5 t ≤ 3
    by_cases q : t = s
    · subst q; simp [up2]
    · simp [up2, q]; exact this
  · intro t i ht hi
    have hi : i < up2 (up2 A.2.1.1.2 3 s (A.2.1.1.2 3 s + 1)) 5 s 0 3 t := hi
    show up2 A.2.1.2.2.2 s (A.2.1.1.2 3 s) (z_cd r p) t i < 16 ∨ (16 ≤ up2 A.2.1.2.2.2 s (A.2.1.1.2 3 s) (z_cd r p) t i ∧ (up2 A.2.1.2.2.2 s (A.2.1.1.2 3 s) (z_cd r p) t i - 16) / 2 < t)
    by_cases q : t = s
    · subst q
      simp [up2] at hi
      by_cases g : i = A.2.1.1.2 3 t
      · simp only [up2, g, and_self, if_true]
        rcases ok with o | o
        · have := z1.1 o.1; omega
        · have := z1.2 o.1; omega
      · simp only [up2, g, and_false, if_false]
        exact C.W.rd t i ht (by omega)
    · simp [up2, q] at hi
      simp only [up2, q, false_and, if_false]
      exact C.W.rd t i ht hi
  · intro t
    have := C.V.nr t
    show up2 (up2 M.2.1.2.1 9 s (M.2.1.2.1 9 s + 1)) 12 s 0 9 t ≤ 6
    by_cases q : t = s
    · subst q; simp [up2]; omega
    · simp [up2, q]; exact this
  · intro t
    have := C.V.nc t
    show up2 (up2 M.2.1.2.1 9 s (M.2.1.2.1 9 s + 1)) 12 s 0 12 t ≤ 3
    by_cases q : t = s
    · subst q; simp [up2]
    · simp [up2, q]; exact this
  · intro t i ht hi
    have hi : i < up2 (up2 M.2.1.2.1 9 s (M.2.1.2.1 9 s + 1)) 12 s 0 9 t := hi
    have a10 : (m_ad M s r p).2.1.2.2 10 t i = if t = s ∧ i = M.2.1.2.1 9 s then r else M.2.1.2.2 10 t i := by simp [m_ad, up3]
    have a11 : (m_ad M s r p).2.1.2.2 11 t i = if t = s ∧ i = M.2.1.2.1 9 s then p else M.2.1.2.2 11 t i := by simp [m_ad, up3]
    rw [a10, a11]
    by_cases q : t = s ∧ i = M.2.1.2.1 9 s
    · rw [if_pos q, if_pos q]
      rcases ok with o | o <;> omega
    · rw [if_neg q, if_neg q]
      refine C.V.rv t i ht ?_
      by_cases g : t = s
      · subst g; simp [up2] at hi; omega
      · simp [up2, g] at hi; exact hi
  · intro t h1 h2
    have h1 : A.1.1.1.2 ≤ t := h1
    have q : t ≠ s := by omega
    have := C.F.hi t h1 h2
    refine ⟨?_, ?_, this.2.2.1, this.2.2.2⟩
    · show up2 (up2 M.2.1.2.1 9 s (M.2.1.2.1 9 s + 1)) 12 s 0 9 t = 0
      simp [up2, q]; exact this.1
    · show up2 (up2 M.2.1.2.1 9 s (M.2.1.2.1 9 s + 1)) 12 s 0 12 t = 0
      simp [up2, q]; exact this.2.1
  · intro t ht
    have ht : t < A.1.1.1.2 := ht
    have h := C.S t ht
    have a3 : (a_ad A s (z_cd r p)).2.1.1.2 3 t = if t = s then A.2.1.1.2 3 s + 1 else A.2.1.1.2 3 t := by simp [a_ad, up2]
    have a5 : (a_ad A s (z_cd r p)).2.1.1.2 5 t = if t = s then 0 else A.2.1.1.2 5 t := by simp [a_ad, up2]
    have m9 : (m_ad M s r p).2.1.2.1 9 t = if t = s then M.2.1.2.1 9 s + 1 else M.2.1.2.1 9 t := by simp [m_ad, up2]
    have m12 : (m_ad M s r p).2.1.2.1 12 t = if t = s then 0 else M.2.1.2.1 12 t := by simp [m_ad, up2]
    have m10 : ∀ i, (m_ad M s r p).2.1.2.2 10 t i = if t = s ∧ i = M.2.1.2.1 9 s then r else M.2.1.2.2 10 t i := fun i => by simp [m_ad, up3]
    have m11 : ∀ i, (m_ad M s r p).2.1.2.2 11 t i = if t = s ∧ i = M.2.1.2.1 9 s then p else M.2.1.2.2 11 t i := fun i => by simp [m_ad, up3]
    have ard : ∀ i, (a_ad A s (z_cd r p)).2.1.2.2.2 t i = if t = s ∧ i = A.2.1.1.2 3 s then z_cd r p else A.2.1.2.2.2 t i := fun i => by simp [a_ad, up2]
    refine ⟨h.j4, h.j5, ?_, ?_, h.fo, h.st, h.ca, ?_, ?_, ?_, h.inj⟩
    · rw [a3, m9, e9]
      split
      · rfl
      · exact h.nr
    · rw [a5, m12]
      split
      · rfl
      · exact h.nc
    · intro i hi
      rw [a3] at hi
      rw [ard, m10, m11, e9]
      by_cases q : t = s ∧ i = A.2.1.1.2 3 s
      · rw [if_pos q, if_pos q, if_pos q]
      · rw [if_neg q, if_neg q, if_neg q]
        refine h.rd i ?_
        by_cases g : t = s
        · subst g; rw [if_pos rfl] at hi; omega
        · rw [if_neg g] at hi; exact hi
    · intro i hi
      rw [a3] at hi
      rw [m10, m11, e9]
      show _ ∨ _
      by_cases q : t = s ∧ i = A.2.1.1.2 3 s
      · rw [if_pos q, if_pos q, q.1]; exact ok
      · rw [if_neg q, if_neg q]
        refine h.ok i ?_
        by_cases g : t = s
        · subst g; rw [if_pos rfl] at hi; omega
        · rw [if_neg g] at hi; exact hi
    · intro k hk
      rw [a5] at hk
      by_cases g : t = s
      · rw [if_pos g] at hk; omega
      · rw [if_neg g] at hk
        have e := h.en k hk
        refine ⟨e.f, e.y, e.c, fun i hi => ?_, fun i hi => ?_⟩
        · rw [a3, if_neg g] at hi; exact e.w i hi
        · rw [a3, if_neg g] at hi; exact e.h i hi
section
variable {b : Nat} {A : vA} {M : vM} {o : Int64} {L : gL} {V : gV}
variable {Ln : Nat} {xs : Nat → Int32} {v4 x1 x2 x3 x4 : Int32} {K : gL → gV → Option Unit}
theorem a_addRead (R : RZ b A M o L V) (W : WA A) {s c : Nat} (hs : s < A.1.1.1.2) (hc : c < 2 ^ 31) : ∃ V1, D_T_addRead (A.1.1.2.2.1 s) (nI c) L V = some (bI (decide (A.2.1.1.2 3 s < 6) && !(a_hs A s c)), V1) ∧ RZ b (if (decide (A.2.1.1.2 3 s < 6) && !(a_hs A s c)) = true then a_ad A s c else A) M o L V1 := by
  have h6 := W.nr s hs
  have r3 : g_rI L V 2 (A.1.1.2.2.1 s) 3 = some (nI (A.2.1.1.2 3 s)) := R.r_sN ⟨hs, Or.inl rfl⟩
  by_cases g : A.2.1.1.2 3 s < 6
  · have er : D_T_hasRead (A.1.1.2.2.1 s) (nI c) L V = some (bI (a_hs A s c), V) := a_hasRead R W hs hc
    obtain ⟨q, hq⟩ : ∃ q, a_hs A s c = q := ⟨_, rfl⟩
    rw [hq] at er
    rw [hq]
    cases q with
    | true =>
      refine ⟨V, ?_, ?_⟩
      · simp (disch := omega) only [D_T_addRead, r3, q_bd, nI_6le, show ¬ 6 ≤ A.2.1.1.2 3 s by omega, if_false, R.z_2, er, q_b2, bI_t, i10, Bool.not_true, Bool.and_false, bI_f]
      · simp only [Bool.not_true, Bool.and_false, Bool.false_eq_true, if_false]; exact R
    | false =>
      obtain ⟨Va, ea, Ra⟩ := R.w_sr (s := s) (i := A.2.1.1.2 3 s) ⟨hs, g⟩ c
      obtain ⟨Vb, eb, Rb⟩ := Ra.w_sN (j := 3) (s := s) ⟨hs, Or.inl rfl⟩ (A.2.1.1.2 3 s + 1)
      obtain ⟨Vc, ec, Rc⟩ := Rb.w_sN (j := 5) (s := s) ⟨hs, Or.inr rfl⟩ 0
      have r3a : g_rI L Va 2 (A.1.1.2.2.1 s) 3 = some (nI (A.2.1.1.2 3 s)) := Ra.r_sN ⟨hs, Or.inl rfl⟩
      refine ⟨Vc, ?_, ?_⟩
      · simp (disch := omega) only [D_T_addRead, r3, q_bd, nI_6le, show ¬ 6 ≤ A.2.1.1.2 3 s by omega, if_false, R.z_2, er, q_b2, bI_f, if_true, R.r_sP2, ea, r3a, nI_1, g, decide_true, Bool.not_false, Bool.and_self, bI_t]
        rw [show g_wr L Va 2 (A.1.1.2.2.1 s) 3 (tI (nI (A.2.1.1.2 3 s + 1))) = some Vb from eb, q_bd, show g_wr L Vb 2 (A.1.1.2.2.1 s) 5 (tI (0 : Int32)) = some Vc from ec, q_bd]
      · simp only [g, decide_true, Bool.not_false, Bool.and_self, if_true]
        exact Rc
  · refine ⟨V, ?_, ?_⟩
    · simp (disch := omega) only [D_T_addRead, r3, q_bd, nI_6le, show 6 ≤ A.2.1.1.2 3 s by omega, if_true, g, decide_false, Bool.false_and, bI_f]
    · simp only [g, decide_false, Bool.false_and, Bool.false_eq_true, if_false]; exact R
theorem e_mo16 (R : RZ b A M o L V) (W : WM M) {s r p : Nat} (hs : s < 16) (hr : r < 2 ^ 31) (hp : p < 2 ^ 31) (h6 : M.2.1.2.1 9 s < 6) : ∀ (d k n : Nat), k + d = M.2.1.2.1 9 s → d < n → ∃ V1, D_M_more_16 L n (b + 5) (nI s) (nI r) (nI p) (nI k) V = some (bI (!(z_any (fun i => decide (M.2.1.2.2 10 s i = r ∧ M.2.1.2.2 11 s i = p)) k d)), V1) ∧ RZ b A (if z_any (fun i => decide (M.2.1.2.2 10 s i = r ∧ M.2.1.2.2 11 s i = p)) k d = true then M else m_ad M s r p) o L V1 := by
  intro d
  induction d with
  | zero =>
    intro k n hk hn
    obtain ⟨n, rfl⟩ : ∃ n', n = n' + 1 := ⟨n - 1, by omega⟩
    have hk : k = M.2.1.2.1 9 s := by omega
    subst hk
    obtain ⟨Va, ea, Ra⟩ := R.w_mR (q := 10) (s := s) (i := M.2.1.2.1 9 s) ⟨Or.inl rfl, hs, h6⟩ r
    obtain ⟨Vb, eb, Rb⟩ := Ra.w_mR (q := 11) (s := s) (i := M.2.1.2.1 9 s) ⟨Or.inr rfl, hs, h6⟩ p
    obtain ⟨Vc, ec, Rc⟩ := Rb.w_mN (q := 9) (s := s) ⟨Or.inl rfl, hs⟩ (M.2.1.2.1 9 s + 1)
    obtain ⟨Vd, ed, Rd⟩ := Rc.w_mN (q := 12) (s := s) ⟨Or.inr rfl, hs⟩ 0
    refine ⟨Vd, ?_, ?_⟩
    · rw [D_M_more_16]
      simp (disch := omega) only [R.r_mP, q_bd, R.r_mN, nI_lep, Nat.le_refl, if_true, nI_m6, nI_add, ea, Ra.r_mP, Ra.r_mN, eb, Rb.r_mP, Rb.r_mN, nI_1, ec, Rc.r_mP, z_any, Bool.not_false, bI_t]
      rw [show g_wa L Vc 100 (b + 3 + 12) (nI s) (tI (0 : Int32)) = some Vd from ed, q_bd]
    · simp only [z_any, Bool.false_eq_true, if_false]
      exact Rd
  | succ d ih =>
    intro k n hk hn
    obtain ⟨n, rfl⟩ : ∃ n', n = n' + 1 := ⟨n - 1, by omega⟩
    have hv := W.rv s k hs (by omega)
    obtain ⟨V1, e1, R1⟩ := ih (k + 1) n (by omega) (by omega)
    by_cases g : M.2.1.2.2 10 s k = r ∧ M.2.1.2.2 11 s k = p
    · refine ⟨V, ?_, ?_⟩
      · rw [D_M_more_16]
        simp (disch := omega) only [R.r_mP, q_bd, R.r_mN, nI_lep, show ¬ M.2.1.2.1 9 s ≤ k by omega, if_false, nI_m6, nI_add, R.r_mR, nI_eqp, g.1, g.2, if_true, z_any, and_self, decide_true, Bool.true_or, Bool.not_true, bI_f]
      · simp only [z_any, g, and_self, decide_true, Bool.true_or, if_true]; exact R
    · refine ⟨V1, ?_, ?_⟩
      · rw [D_M_more_16]
        simp (disch := omega) only [R.r_mP, q_bd, R.r_mN, nI_lep, show ¬ M.2.1.2.1 9 s ≤ k by omega, if_false, nI_m6, nI_add, R.r_mR, nI_eqp, nI_1, e1, z_any, g, decide_false, Bool.false_or]
        split
        · split
          · exfalso; exact g ⟨by assumption, by assumption⟩
          · rfl
        · rfl
      · simp only [z_any, g, decide_false, Bool.false_or]; exact R1
theorem e_more (R : RZ b A M o L V) (W : WM M) {s r p : Nat} (hs : s < 16) (hr : r < 2 ^ 31) (hp : p < 2 ^ 31) : ∃ V1, D_M_more (b + 5) (nI s) (nI r) (nI p) L V = some (bI (decide (M.2.1.2.1 9 s < 6) && !(m_hs M s r p)), V1) ∧ RZ b A (if (decide (M.2.1.2.1 9 s < 6) && !(m_hs M s r p)) = true then m_ad M s r p else M) o L V1 := by
  have h6 := W.nr s
  have c6 : (nI (M.2.1.2.1 9 s) = (6 : Int32)) = (M.2.1.2.1 9 s = 6) := nI_eqp (c := 6) (by omega) (by omega)
  by_cases g : M.2.1.2.1 9 s < 6
  · obtain ⟨V1, e1, R1⟩ := e_mo16 R W hs hr hp g (M.2.1.2.1 9 s) 0 1000 (by omega) (by omega)
    refine ⟨V1, ?_, ?_⟩
    · simp (disch := omega) only [D_M_more, R.r_mP, q_bd, R.r_mN, c6, show ¬ M.2.1.2.1 9 s = 6 by omega, if_false, g, decide_true, Bool.true_and]
      exact e1
    · simp only [g, decide_true, Bool.true_and]
      unfold m_hs
      obtain ⟨q, hq⟩ : ∃ q, z_any (fun i => decide (M.2.1.2.2 10 s i = r ∧ M.2.1.2.2 11 s i = p)) 0 (M.2.1.2.1 9 s) = q := ⟨_, rfl⟩
      rw [hq] at R1 ⊢
      cases q <;> exact R1
  · refine ⟨V, ?_, ?_⟩
    · simp (disch := omega) only [D_M_more, R.r_mP, q_bd, R.r_mN, c6, show M.2.1.2.1 9 s = 6 by omega, if_true, show ¬ 6 < 6 by omega, decide_false, Bool.false_and, bI_f]
      exact if_pos rfl
    · simp only [g, decide_false, Bool.false_and, Bool.false_eq_true, if_false]; exact R
theorem c_ad (R : RZ b A M o L V) (C : Cp A M) {s r p : Nat} (hs : s < A.1.1.1.2) (ok : (p = 2 ∧ r < A.1.1.1.1) ∨ (p < 2 ∧ r < s)) : ∃ y V1 V2 V3 A2 M2, D_T_addRead (A.1.1.2.2.1 s) (nI (z_cd r p)) L V = some (bI y, V1) ∧ g_wr L V1 4 (b + 5) 0 (tI (0 : Int32)) = some V2 ∧ RZ b (if y = true then a_ad A s (z_cd r p) else A) { M with fst.fst.fst := up1 M.1.1.1 0 0 } o L V2 ∧ D_M_more (b + 5) (nI s) (nI r) (nI p) L V2 = some (bI y, V3) ∧ RZ b A2 M2 o L V3 ∧ Cp A2 M2 := by
  have W := C.W
  have h1 := W.nf
  have h2 := W.ns
  have h := C.S s hs
  have zc : z_cd r p < 2 ^ 31 := by unfold z_cd; split <;> omega
  obtain ⟨V1, e1, R1⟩ := a_addRead R W hs zc
  obtain ⟨V2, e2, R2⟩ := R1.w_mo (j := 0) (Or.inl rfl) 0
  obtain ⟨V3, e3, R3⟩ := e_more R2 (C.o0 0).V (s := s) (r := r) (p := p) (by omega) (by omega) (by omega)
  have eq : (decide (({ M with fst.fst.fst := up1 M.1.1.1 0 0 } : vM).2.1.2.1 9 s < 6) && !(m_hs { M with fst.fst.fst := up1 M.1.1.1 0 0 } s r p)) = (decide (A.2.1.1.2 3 s < 6) && !(a_hs A s (z_cd r p))) := by
    rw [cp_hs C hs ok, ← h.nr]; rfl
  rw [eq] at e3 R3
  obtain ⟨y, hy⟩ : ∃ y, (decide (A.2.1.1.2 3 s < 6) && !(a_hs A s (z_cd r p))) = y := ⟨_, rfl⟩
  rw [hy] at e1 R1 R2 e3 R3
  refine ⟨y, V1, V2, V3, _, _, e1, e2, R2, e3, R3, ?_⟩
  cases y with
  | false => exact C.o0 0
  | true =>
    have g : A.2.1.1.2 3 s < 6 := by simp at hy; exact hy.1
    exact cp_ad (C.o0 0) hs g ok
theorem i_b (y : Bool) (V : gV) : (if bI y = 0 then some ((0 : Int32), V) else some ((1 : Int32), V)) = some (bI y, V) := by cases y <;> rfl
theorem c_4 (R : RZ b A M o L V) (C : Cp A M) (x1 x2 : Int32) : ∃ y V1 V2 A2 M2, D_A_readsFile b x1 x2 L V = some (y, V1) ∧ D_M_readsFile (b + 5) x1 x2 L V1 = some (y, V2) ∧ RZ b A2 M2 o L V2 ∧ Cp A2 M2 := by
  have W := C.W
  have h1 := W.nf
  have h2 := W.ns
  have k1 := C.F.k1
  have k2 := C.F.k2
  rcases z_dI x1 A.1.1.1.2 with ⟨s, hs, _, rfl⟩ | hx
  · rcases z_dI x2 A.1.1.1.1 with ⟨f, hf, _, rfl⟩ | hx2
    · obtain ⟨y, V1, V2, V3, A2, M2, e1, e2, R2, e3, R3, C3⟩ := c_ad R C hs (r := f) (p := 2) (Or.inl ⟨rfl, hf⟩)
      rw [show z_cd f 2 = f from rfl] at e1 R2
      have ea := e_stepIn R2 (s := s) (by show M.1.1.2.1 2 ≤ 16; omega) (by show s < M.1.1.2.1 2; omega)
      have eb := e_srcIn R2 (s := f) (by show M.1.1.2.1 1 ≤ 16; omega) (by show f < M.1.1.2.1 1; omega)
      refine ⟨bI y, V1, V3, A2, M2, ?_, ?_, R3, C3⟩
      · simp (disch := omega) only [D_A_readsFile, R.z_3, q_bd, a_stepIn R W hs, q_b2, q_on1, a_srcIn R W hf, D_A_codeOfFile, R.z_2, e1, q_bz]
      · simp (disch := omega) only [D_M_readsFile, e2, q_bd, R.z_4, ea, eb, q_b2, i10, if_false]
        rw [show D_M_more (b + 5) (nI s) (nI f) (2 : Int32) L V2 = some (bI y, V3) from e3, q_b2, i_b]
    · obtain ⟨V1, e1, R1⟩ := R.w_mo (j := 0) (Or.inl rfl) 0
      have ea := e_stepIn R1 (s := s) (by show M.1.1.2.1 2 ≤ 16; omega) (by show s < M.1.1.2.1 2; omega)
      have eb := e_srcOut R1 (x := x2) (by show M.1.1.2.1 1 ≤ 16; omega) (by show zOut x2 (M.1.1.2.1 1); rw [k1]; exact hx2)
      refine ⟨0, V, V1, _, _, ?_, ?_, R1, C.o0 0⟩
      · simp only [D_A_readsFile, R.z_3, q_bd, a_stepIn R W hs, q_b2, q_on1, a_srcOut R W hx2, q_on0]
      · simp only [D_M_readsFile, e1, q_bd, R.z_4, ea, eb, q_b2, i10, if_false, i00, if_true]
  · obtain ⟨V1, e1, R1⟩ := R.w_mo (j := 0) (Or.inl rfl) 0
    have ea := e_stepOut R1 (x := x1) (by show M.1.1.2.1 2 ≤ 16; omega) (by show zOut x1 (M.1.1.2.1 2); rw [k2]; exact hx)
    refine ⟨0, V, V1, _, _, ?_, ?_, R1, C.o0 0⟩
    · simp only [D_A_readsFile, R.z_3, q_bd, a_stepOut R W hx, q_b2, q_on0]
    · simp only [D_M_readsFile, e1, q_bd, R.z_4, ea, q_b2, i00, if_true]
theorem l_4 (R : RZ b A M o L V) (C : Cp A M) (g1 : g_sx Ln xs (v4 + 1) = some x1) (g2 : g_sx Ln xs (v4 + 2) = some x2) (hK : zGo b L K) : D_L4 Ln xs b (b + 5) (b + 26) v4 K L V = some () := by
  obtain ⟨y, V1, V2, A2, M2, e1, e2, R2, C2⟩ := c_4 R C x1 x2
  simp only [D_L4, g1, g2, q_bd, R.z_3, e1, q_b2, R.z_4, e2, if_true]
  exact hK _ _ _ _ _ rfl R2 C2
theorem c_5 (R : RZ b A M o L V) (C : Cp A M) (x1 x2 x3 : Int32) : ∃ y V1 V2 A2 M2, D_A_readsPart b x1 x2 x3 L V = some (y, V1) ∧ D_M_readsPart (b + 5) x1 x2 x3 L V1 = some (y, V2) ∧ RZ b A2 M2 o L V2 ∧ Cp A2 M2 := by
  have W := C.W
  have h1 := W.nf
  have h2 := W.ns
  have k1 := C.F.k1
  have k2 := C.F.k2
  obtain ⟨V1, e1, R1⟩ := R.w_mo (j := 0) (Or.inl rfl) 0
  rcases z_dI x1 A.1.1.1.2 with ⟨s, hs, _, rfl⟩ | hx
  · have ea := e_stepIn R1 (s := s) (by show M.1.1.2.1 2 ≤ 16; omega) (by show s < M.1.1.2.1 2; omega)
    by_cases hp : x3 = 0 ∨ x3 = 1
    · obtain ⟨p, p2, rfl⟩ : ∃ p, p < 2 ∧ x3 = nI p := by
        rcases hp with rfl | rfl
        · exact ⟨0, by omega, rfl⟩
        · exact ⟨1, by omega, rfl⟩
      have ip : ∀ V, D_A_isPart (nI p) L V = some (1, V) := by
        intro V
        have : p = 0 ∨ p = 1 := by omega
        rcases this with rfl | rfl <;> simp [D_A_isPart, D_A_isPart_9, nI]
      have mp : ∀ r V2, r < s → D_M_readsPart (b + 5) (nI s) (nI r) (nI p) L V2 = Option.bind (g_wr L V2 4 (b + 5) 0 (tI (0 : Int32))) fun V1 => Option.bind (L.2 4 (b + 5)) fun _ => g_b2 (D_M_isStep (b + 5) (nI s) L V1) fun r2 V3 => if r2 = 0 then some (0, V3) else D_M_readsPart_31 L (b + 5) (nI s) (nI r) (nI p) V3 := by
        intro r V2 hr
        have c1 : (nI r < (0 : Int32)) = False := nI_lt0 (by omega)
        have c2 : (nI s ≤ nI r) = (s ≤ r) := nI_lep (by omega) (by omega)
        have : p = 0 ∨ p = 1 := by omega
        unfold D_M_readsPart
        simp only [c1, c2, show ¬ s ≤ r by omega, if_false]
        rcases this with rfl | rfl
        · simp only [show (nI 0 = (0 : Int32)) = True from eq_true rfl, if_true]
        · simp only [show (nI 1 = (0 : Int32)) = False from eq_false (by decide), show (nI 1 = (1 : Int32)) = True from eq_true rfl, if_true, if_false]
      rcases z_dI x2 A.1.1.1.2 with ⟨r, hr, _, rfl⟩ | hx2
      · have cl : (nI r < nI s) = (r < s) := nI_ltp (by omega) (by omega)
        by_cases g : r < s
        · obtain ⟨y, Va, Vb, Vc, A2, M2, f1, f2, Rb, f3, Rc, Cc⟩ := c_ad R C hs (r := r) (p := p) (Or.inr ⟨p2, g⟩)
          have ec : D_A_codeOfPart (nI r) (nI p) L V = some (nI (z_cd r p), V) := by
            simp only [D_A_codeOfPart]
            rw [show (16 : Int32) = nI 16 from rfl, show (2 : Int32) = nI 2 from rfl, pk_mul, nI_add, nI_add]
            unfold z_cd
            rw [if_neg (by omega)]
          have eb := e_stepIn Rb (s := s) (by show M.1.1.2.1 2 ≤ 16; omega) (by show s < M.1.1.2.1 2; omega)
          refine ⟨bI y, Va, Vc, A2, M2, ?_, ?_, Rc, Cc⟩
          · simp (disch := omega) only [D_A_readsPart, R.z_3, q_bd, a_stepIn R W hs, q_b2, q_on1, a_stepIn R W hr, ip, i10, if_false, cl, g, if_true, ec, R.z_2, f1, q_bz]
          · rw [mp r Va g]
            simp only [f2, q_bd, R.z_4, eb, q_b2, i10, if_false, D_M_readsPart_31, f3, i_b]
        · refine ⟨0, V, V1, _, _, ?_, ?_, R1, C.o0 0⟩
          · simp only [D_A_readsPart, R.z_3, q_bd, a_stepIn R W hs, q_b2, q_on1, a_stepIn R W hr, ip, i10, if_false, cl, g]
          · have c2 : (nI s ≤ nI r) = (s ≤ r) := nI_lep (by omega) (by omega)
            simp (disch := omega) only [D_M_readsPart, e1, q_bd, R.z_4, ea, q_b2, i10, if_false, nI_lt0, c2, show s ≤ r by omega, if_true]
      · refine ⟨0, V, V1, _, _, ?_, ?_, R1, C.o0 0⟩
        · simp only [D_A_readsPart, R.z_3, q_bd, a_stepIn R W hs, q_b2, q_on1, a_stepOut R W hx2, q_on0]
        · simp only [D_M_readsPart, e1, q_bd, R.z_4, ea, q_b2, i10, if_false]
          rcases hx2 with q | ⟨j, hj, hn, rfl⟩
          · rw [if_pos q]
          · have c2 : (nI s ≤ nI j) = (s ≤ j) := nI_lep (by omega) (by omega)
            simp (disch := omega) only [nI_lt0, if_false, c2, show s ≤ j by omega, if_true]
    · have ip : ∀ V, D_A_isPart x3 L V = some (0, V) := by
        intro V
        simp only [D_A_isPart, show ¬ x3 = 0 from fun q => hp (Or.inl q), show ¬ x3 = 1 from fun q => hp (Or.inr q), if_false]
      refine ⟨0, V, V1, _, _, ?_, ?_, R1, C.o0 0⟩
      · rcases z_dI x2 A.1.1.1.2 with ⟨r, hr, _, rfl⟩ | hx2
        · simp only [D_A_readsPart, R.z_3, q_bd, a_stepIn R W hs, q_b2, q_on1, a_stepIn R W hr, ip, i00, if_true]
        · simp only [D_A_readsPart, R.z_3, q_bd, a_stepIn R W hs, q_b2, q_on1, a_stepOut R W hx2, q_on0]
      · simp only [D_M_readsPart, e1, q_bd, R.z_4, ea, q_b2, i10, if_false, show ¬ x3 = 0 from fun q => hp (Or.inl q), show ¬ x3 = 1 from fun q => hp (Or.inr q)]
        split
        · rfl
        · split <;> rfl
  · have ea := e_stepOut R1 (x := x1) (by show M.1.1.2.1 2 ≤ 16; omega) (by show zOut x1 (M.1.1.2.1 2); rw [k2]; exact hx)
    refine ⟨0, V, V1, _, _, ?_, ?_, R1, C.o0 0⟩
    · simp only [D_A_readsPart, R.z_3, q_bd, a_stepOut R W hx, q_b2, q_on0]
    · simp only [D_M_readsPart, e1, q_bd, R.z_4, ea, q_b2, i00, if_true]
theorem l_5 (R : RZ b A M o L V) (C : Cp A M) (g1 : g_sx Ln xs (v4 + 1) = some x1) (g2 : g_sx Ln xs (v4 + 2) = some x2) (g3 : g_sx Ln xs (v4 + 3) = some x3) (hK : zGo b L K) : D_L5 Ln xs b (b + 5) (b + 26) v4 K L V = some () := by
  obtain ⟨y, V1, V2, A2, M2, e1, e2, R2, C2⟩ := c_5 R C x1 x2 x3
  simp only [D_L5, g1, g2, g3, q_bd, R.z_3, e1, q_b2, R.z_4, e2, if_true]
  exact hK _ _ _ _ _ rfl R2 C2
end
