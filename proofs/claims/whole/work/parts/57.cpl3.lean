theorem z_rk : ∀ k, k < 3 → ∀ j, j < 4 → ∀ j', j' < 4 → (if j = 0 then 3 else if j ≤ k then j - 1 else if j = 3 then k else j) = (if j' = 0 then 3 else if j' ≤ k then j' - 1 else if j' = 3 then k else j') → j = j' := by decide
theorem m_va_wm {M : vM} {s i : Nat} (hr : M.2.1.2.2 11 s i = 2 ∨ M.2.1.2.2 10 s i ≠ s) : m_va (m_wm M s) s i = m_va M s i := by
  have h := mS.wm M s
  unfold m_va m_pt
  rw [h.R, h.z6, h.J]
  by_cases g : M.2.1.2.2 11 s i = 2
  · simp only [g, if_true]
  · simp only [g, if_false]
    rw [h.y _ (hr.resolve_left g)]
theorem a_u3_E (A : vA) (s : Nat) (m : Option Nat) : (a_u3 A s m).2.2.1.2 = (a_fo A s (A.2.2.1.1 s 3)).2.2.1.2 ∧ (a_u3 A s m).2.2.2.1 = (a_fo A s (A.2.2.1.1 s 3)).2.2.2.1 ∧ (a_u3 A s m).2.2.2.2.2 = A.2.2.2.2.2 ∧ (a_u3 A s m).2.2.2.2.1 = A.2.2.2.2.1 := by
  cases m <;> simp only [a_u3, a_rdo, a_rp, a_bf, a_fo, and_self]
theorem a_u3_o (A : vA) (s : Nat) (m : Option Nat) : (a_u3 A s m).1.2.2.1 = A.1.2.2.1 ∧ (a_u3 A s m).1.2.2.2.2 = A.1.2.2.2.2 ∧ (a_u3 A s m).1.2.2.2.1 = up1 A.1.2.2.2.1 (a_ca A s) (A.1.2.2.2.1 (a_ca A s) + 1) := by
  cases m <;> simp only [a_u3, a_rdo, a_rp, a_bf, a_fo, and_self]
theorem cp_redo {A : vA} {M : vM} {s : Nat} (W : WA A) (hs : s < A.1.1.1.2) (h : Cs A M s) (P : Sp A M s) (hc : a_ca A s = m_ca M s) : Cs (a_u3 A s (m_mt M s)) (m_rM M s) s ∧ ((a_u3 A s (m_mt M s)).2.1.2.2.1 9 s = 2 ∨ (a_u3 A s (m_mt M s)).2.1.2.2.1 9 s = 6 ↔ m_ho (m_rM M s) s = true) ∧ ((a_u3 A s (m_mt M s)).2.1.2.2.1 9 s = 2 ↔ m_ho (m_rM M s) s = true) ∧ (a_u3 A s (m_mt M s)).2.1.2.2.1 10 s ≠ -1 ∧ 0 < (a_u3 A s (m_mt M s)).2.1.1.2 5 s := by
  have h3 := W.nc s hs
  have h6 := W.nr s hs
  have eM1 : m_mt (m_r1 M s) s = m_mt M s := rfl
  have eth : m_th (m_r1 M s) s = m_th M s := by
    have h := mS.r1 M s
    funext i; unfold m_th; rw [h.R, h.z6]
  have eva : ∀ i, i < A.2.1.1.2 3 s → m_va (m_wm (m_r1 M s) s) s i = m_va M s i := by
    intro i hi
    rw [m_va_wm]
    · have h := mS.r1 M s
      unfold m_va m_pt; rw [h.R, h.z6, h.J]; rfl
    · rcases h.ok i hi with g | g
      · exact Or.inl g.1
      · exact Or.inr (by show M.2.1.2.2 10 s i ≠ s; omega)
  have eN9 : (m_r1 M s).2.1.2.1 9 s = A.2.1.1.2 3 s := h.nr
  have eJ5 : (m_r1 M s).1.1.2.2 5 s = A.2.1.1.1 1 s := h.j5
  have esum : z_sum (m_va (m_wm (m_r1 M s) s) s) 0 ((m_r1 M s).2.1.2.1 9 s) 17 = a_sm A s (A.2.2.1.1 s 3) := by
    rw [eN9]
    unfold a_sm
    refine z_sum_congr _ _ _ fun i _ hi => ?_
    rw [eva i (by omega), P.w i (by omega)]
  have efl : m_fl (m_th (m_r1 M s) s) ((m_r1 M s).2.1.2.1 9 s) ((m_r1 M s).1.1.2.2 5 s) (z_sum (m_va (m_wm (m_r1 M s) s) s) 0 ((m_r1 M s).2.1.2.1 9 s) 17) = m_fl (A.2.2.2.2.1 s (A.2.2.1.1 s 3)) (A.2.1.1.2 3 s) (A.2.1.1.1 1 s) (a_sm A s (A.2.2.1.1 s 3)) := by
    rw [esum, eN9, eJ5, eth]
    exact m_fl_congr fun i hi => (P.h i hi).symm
  have eEI : (a_fo A s (A.2.2.1.1 s 3)).2.2.1.2 s (A.2.2.1.1 s 3) = m_fl (A.2.2.2.2.1 s (A.2.2.1.1 s 3)) (A.2.1.1.2 3 s) (A.2.1.1.1 1 s) (a_sm A s (A.2.2.1.1 s 3)) := by simp [a_fo, up2]
  have eF0 : (m_rM M s).2.2.1.1 s 0 = (a_fo A s (A.2.2.1.1 s 3)).2.2.1.2 s (A.2.2.1.1 s 3) := by
    rw [eEI, ← efl]
    show up2 _ s 0 _ s 0 = _
    simp [up2]
  have ewc : m_wc (m_r1 M s) s = (match m_mt M s with | some _ => A.2.1.1.2 5 s | none => if 3 ≤ A.2.1.1.2 5 s then A.2.1.1.2 5 s else A.2.1.1.2 5 s + 1) := by
    unfold m_wc
    rw [eM1]
    have : (m_r1 M s).2.1.2.1 12 s = A.2.1.1.2 5 s := h.nc
    rw [this]
    rfl
  have ewl : m_wl (m_r1 M s) s = (match m_mt M s with | some k => k | none => if 3 ≤ A.2.1.1.2 5 s then 2 else A.2.1.1.2 5 s) := by
    unfold m_wl
    rw [eM1]
    have : (m_r1 M s).2.1.2.1 12 s = A.2.1.1.2 5 s := h.nc
    rw [this]
    rfl
  have eNc : (m_rM M s).2.1.2.1 12 s = m_wc (m_r1 M s) s := by
    rw [(m_r1_same M s).2.1]; simp [up2]
  have eSN : (a_u3 A s (m_mt M s)).2.1.1.2 5 s = m_wc (m_r1 M s) s := by
    rw [ewc]
    cases hm : m_mt M s with
    | none =>
      have e : (a_u3 A s none).2.1.1.2 5 s = if 3 < A.2.1.1.2 5 s + 1 then 3 else A.2.1.1.2 5 s + 1 := by
        show up2 A.2.1.1.2 5 s (if 3 < A.2.1.1.2 5 s + 1 then 3 else A.2.1.1.2 5 s + 1) 5 s = _
        simp only [up2, and_self, if_true]
      rw [e]
      simp only
      by_cases g : 3 ≤ A.2.1.1.2 5 s
      · rw [if_pos g, if_pos (by omega)]; omega
      · rw [if_neg g, if_neg (by omega)]
    | some k => rfl
  have hpos : 0 < m_wc (m_r1 M s) s := by
    rw [ewc]
    cases hm : m_mt M s with
    | none => simp only; split <;> omega
    | some k =>
      have := m_mt_lt hm
      rw [h.nc] at this
      simp only; omega
  have eho : m_ho (m_rM M s) s = decide ((a_fo A s (A.2.2.1.1 s 3)).2.2.1.2 s (A.2.2.1.1 s 3) = -1) := by
    unfold m_ho
    rw [eNc, eF0]
    simp [hpos]
  have e9 : (a_u3 A s (m_mt M s)).2.1.2.2.1 9 s = if (a_fo A s (A.2.2.1.1 s 3)).2.2.1.2 s (A.2.2.1.1 s 3) = -1 then 2 else 3 := by
    simp [a_u3, a_rdo, up2]
  have e10 : (a_u3 A s (m_mt M s)).2.1.2.2.1 10 s = nI (a_ca A s) := by simp [a_u3, up2]
  have hca := a_ca_lt A s
  have epm : ∀ j, j < 4 → (a_u3 A s (m_mt M s)).2.2.1.1 s j = (match m_mt M s with | none => z_pf (A.2.2.1.1 s) 3 (A.2.2.1.1 s 3) j | some k => z_pf (fun i => if i = k then A.2.2.1.1 s 3 else if i = 3 then A.2.2.1.1 s k else A.2.2.1.1 s i) k (A.2.2.1.1 s 3) j) := by
    intro j _
    cases hm : m_mt M s with
    | none => simp [a_u3, a_rdo, a_rp, a_bf, a_fo]
    | some k =>
      simp only [a_u3, a_rdo, a_rp, a_bf, a_fo, if_true]
      congr 1
      funext i
      simp [up2]
  have epm0 : (a_u3 A s (m_mt M s)).2.2.1.1 s 0 = A.2.2.1.1 s 3 := by
    rw [epm 0 (by omega)]
    cases m_mt M s <;> rfl
  have epmj : ∀ j, j ≠ 0 → j < m_wc (m_r1 M s) s → (a_u3 A s (m_mt M s)).2.2.1.1 s j = A.2.2.1.1 s (z_sh (m_wl (m_r1 M s) s) j) ∧ z_sh (m_wl (m_r1 M s) s) j < A.2.1.1.2 5 s := by
    intro j h0 hj
    rw [ewc] at hj
    rw [ewl, epm j (by cases hm : m_mt M s with
      | none => rw [hm] at hj; simp only at hj; split at hj <;> omega
      | some k => rw [hm] at hj; simp only at hj; omega)]
    cases hm : m_mt M s with
    | none =>
      rw [hm] at hj
      simp only at hj ⊢
      have h1 : j ≤ (if 3 ≤ A.2.1.1.2 5 s then 2 else A.2.1.1.2 5 s) := by split at hj <;> split <;> omega
      have h2 : j ≤ 3 := by split at h1 <;> omega
      unfold z_pf z_sh
      rw [if_neg h0, if_pos h2, if_pos ⟨by omega, h1⟩]
      exact ⟨rfl, by split at h1 <;> omega⟩
    | some k =>
      rw [hm] at hj
      simp only at hj ⊢
      have hk := m_mt_lt hm
      rw [h.nc] at hk
      unfold z_pf z_sh
      rw [if_neg h0]
      by_cases g : j ≤ k
      · rw [if_pos g, if_pos ⟨by omega, g⟩]
        simp only [if_neg (show ¬ j - 1 = k by omega), if_neg (show ¬ j - 1 = 3 by omega)]
        exact ⟨trivial, by omega⟩
      · rw [if_neg g, if_neg (by omega)]
        simp only [if_neg (show ¬ j = k by omega), if_neg (show ¬ j = 3 by omega)]
        exact ⟨trivial, hj⟩
  have hne : ∀ k, k < 3 → A.2.2.1.1 s k ≠ A.2.2.1.1 s 3 := fun k hk q => by have := h.inj k 3 (by omega) (by omega) q; omega
  have eE : (a_u3 A s (m_mt M s)).2.2.1.2 = (a_fo A s (A.2.2.1.1 s 3)).2.2.1.2 ∧ (a_u3 A s (m_mt M s)).2.2.2.1 = (a_fo A s (A.2.2.1.1 s 3)).2.2.2.1 ∧ (a_u3 A s (m_mt M s)).2.2.2.2.2 = A.2.2.2.2.2 ∧ (a_u3 A s (m_mt M s)).2.2.2.2.1 = A.2.2.2.2.1 := by
    exact a_u3_E A s (m_mt M s)
  have hS := aS.u3 A s (m_mt M s)
  have hT := mS.rM M s
  refine ⟨⟨?_, ?_, ?_, ?_, ?_, ?_, ?_, ?_, ?_, fun j hj => ?_, ?_⟩, ?_, ?_, ?_, ?_⟩
  · rw [hT.J, hS.SJ]; exact h.j4
  · rw [hT.J, hS.SJ]; exact h.j5
  · rw [hT.n9, hS.nr]; exact h.nr
  · rw [eNc, eSN]
  · have e1 : (m_rM M s).1.2.1 7 s = false := by
      have e := (m_wm_same (m_r1 M s) s).2.2.2.1
      show (m_wm (m_r1 M s) s).1.2.1 7 s = false
      rw [e]; simp [m_r1, up2]
    rw [e1]
    simp [a_u3, a_rdo, up2]
  · rw [e9]
    have e1 : (m_rM M s).1.2.2.1 17 s = if m_ho (m_wk (m_r1 M s) s) s = true then 2 else 3 := by simp [m_rM, up2]
    rw [e1]
    have e2 : m_ho (m_wk (m_r1 M s) s) s = m_ho (m_rM M s) s := rfl
    rw [e2, eho]
    by_cases g : (a_fo A s (A.2.2.1.1 s 3)).2.2.1.2 s (A.2.2.1.1 s 3) = -1 <;> simp [g]
  · rw [e10, e9]
    have e1 : (m_rM M s).1.2.2.1 18 s = nI (m_ca M s) := by simp [m_rM, m_r1, up2]
    rw [e1, hc]
    split
    · simp
    · simp
  · rw [hS.nr, hT.R, hS.rd]; exact h.rd
  · rw [hS.nr, hT.R, hS.nf]; exact h.ok
  · rw [eSN] at hj
    by_cases h0 : j = 0
    · subst h0
      refine ⟨?_, ?_, ?_, ?_, ?_⟩
      · rw [epm0, eE.1, eF0]
      · rw [epm0, eE.2.1]
        have : (m_rM M s).2.2.1.2 s 0 = a_sm A s (A.2.2.1.1 s 3) := by
          rw [← esum]
          show up2 _ s 0 _ s 0 = _
          simp [up2]
        rw [this]; simp [a_fo, up3]
      · rw [epm0, eE.2.1, hS.SJ]
        have : (m_rM M s).2.2.1.2 s 0 = a_sm A s (A.2.2.1.1 s 3) := by
          rw [← esum]
          show up2 _ s 0 _ s 0 = _
          simp [up2]
        rw [this]; simp [a_fo, up3]
      · intro i hi
        rw [hS.nr] at hi
        rw [epm0, eE.2.2.1, P.w i hi, ← eva i hi]
        show _ = if s = s ∧ 0 = 0 ∧ i < (m_r1 M s).2.1.2.1 9 s then m_va (m_wm (m_r1 M s) s) s i else _
        rw [if_pos ⟨rfl, rfl, by rw [eN9]; exact hi⟩]
      · intro i hi
        rw [hS.nr] at hi
        rw [epm0, eE.2.2.2, P.h i hi, ← eth]
        show _ = if s = s ∧ 0 = 0 ∧ i < (m_r1 M s).2.1.2.1 9 s then m_th (m_r1 M s) s i else _
        rw [if_pos ⟨rfl, rfl, by rw [eN9]; exact hi⟩]
    · obtain ⟨p1, p2⟩ := epmj j h0 hj
      have e := h.en _ p2
      have hx := hne _ (show z_sh (m_wl (m_r1 M s) s) j < 3 by omega)
      have em := m_mv_ent s (m_wl (m_r1 M s) s) { m_r1 M s with snd.fst.snd.fst := up2 (m_r1 M s).2.1.2.1 12 s (m_wc (m_r1 M s) s) } s j
      simp only [if_true] at em
      refine ⟨?_, ?_, ?_, ?_, ?_⟩
      · rw [p1, eE.1]
        have e1 : (m_rM M s).2.2.1.1 s j = M.2.2.1.1 s (z_sh (m_wl (m_r1 M s) s) j) := by
          rw [show (m_rM M s).2.2.1.1 s j = up2 (m_wm (m_r1 M s) s).2.2.1.1 s 0 _ s j from rfl]
          simp only [up2, h0, and_false, if_false]
          exact em.2.1
        rw [e1, ← e.f]; simp [a_fo, up2, hx]
      · rw [p1, eE.2.1]
        have e1 : (m_rM M s).2.2.1.2 s j = M.2.2.1.2 s (z_sh (m_wl (m_r1 M s) s) j) := by
          rw [show (m_rM M s).2.2.1.2 s j = up2 (m_wm (m_r1 M s) s).2.2.1.2 s 0 _ s j from rfl]
          simp only [up2, h0, and_false, if_false]
          exact em.1
        rw [e1, ← e.y]; simp [a_fo, up3, hx]
      · rw [p1, eE.2.1, hS.SJ]
        have e1 : (m_rM M s).2.2.1.2 s j = M.2.2.1.2 s (z_sh (m_wl (m_r1 M s) s) j) := by
          rw [show (m_rM M s).2.2.1.2 s j = up2 (m_wm (m_r1 M s) s).2.2.1.2 s 0 _ s j from rfl]
          simp only [up2, h0, and_false, if_false]
          exact em.1
        rw [e1, ← e.c]; simp [a_fo, up3, hx]
      · intro i hi
        rw [hS.nr] at hi
        rw [p1, eE.2.2.1, e.w i hi]
        show _ = if s = s ∧ j = 0 ∧ i < (m_r1 M s).2.1.2.1 9 s then _ else (m_wm (m_r1 M s) s).2.2.2.1 s j i
        rw [if_neg (fun q => h0 q.2.1)]
        exact (congrFun em.2.2.1 i).symm
      · intro i hi
        rw [hS.nr] at hi
        rw [p1, eE.2.2.2, e.h i hi]
        show _ = if s = s ∧ j = 0 ∧ i < (m_r1 M s).2.1.2.1 9 s then _ else (m_wm (m_r1 M s) s).2.2.2.2 s j i
        rw [if_neg (fun q => h0 q.2.1)]
        exact (congrFun em.2.2.2 i).symm
  · intro j j' hj hj' q
    rw [epm j hj, epm j' hj'] at q
    have inj := h.inj
    cases hm : m_mt M s with
    | none =>
      rw [hm] at q
      simp only [z_pf] at q
      by_cases g1 : j = 0
      · by_cases g2 : j' = 0
        · omega
        · rw [if_pos g1, if_neg g2, if_pos (by omega)] at q
          have := inj _ _ (by omega) (by omega) q; omega
      · by_cases g2 : j' = 0
        · rw [if_neg g1, if_pos g2, if_pos (by omega)] at q
          have := inj _ _ (by omega) (by omega) q; omega
        · rw [if_neg g1, if_neg g2, if_pos (by omega), if_pos (by omega)] at q
          have := inj _ _ (by omega) (by omega) q; omega
    | some k =>
      have hk := m_mt_lt hm
      rw [h.nc] at hk
      rw [hm] at q
      have key : ∀ j, j < 4 → z_pf (fun i => if i = k then A.2.2.1.1 s 3 else if i = 3 then A.2.2.1.1 s k else A.2.2.1.1 s i) k (A.2.2.1.1 s 3) j = A.2.2.1.1 s (if j = 0 then 3 else if j ≤ k then j - 1 else if j = 3 then k else j) := by
        intro j hj
        simp only [z_pf]
        by_cases g1 : j = 0
        · rw [if_pos g1, if_pos g1]
        · rw [if_neg g1, if_neg g1]
          by_cases g2 : j ≤ k
          · rw [if_pos g2, if_pos g2, if_neg (by omega), if_neg (by omega)]
          · rw [if_neg g2, if_neg g2, if_neg (by omega)]
            by_cases g3 : j = 3
            · rw [if_pos g3, if_pos g3]
            · rw [if_neg g3, if_neg g3]
      simp only at q
      rw [key j hj, key j' hj'] at q
      have hb : ∀ j, j < 4 → (if j = 0 then 3 else if j ≤ k then j - 1 else if j = 3 then k else j) < 4 := fun j hj => by
        split
        · omega
        · split
          · omega
          · split <;> omega
      have := inj _ _ (hb j hj) (hb j' hj') q
      exact z_rk k (by omega) j hj j' hj' this
  · rw [e9, eho]
    by_cases g : (a_fo A s (A.2.2.1.1 s 3)).2.2.1.2 s (A.2.2.1.1 s 3) = -1 <;> simp [g]
  · rw [e9, eho]
    by_cases g : (a_fo A s (A.2.2.1.1 s 3)).2.2.1.2 s (A.2.2.1.1 s 3) = -1 <;> simp [g]
  · rw [e10]
    intro q
    have := z_nm1 (k := a_ca A s) (by omega)
    rw [q] at this
    simp at this
  · rw [eSN]; exact hpos
