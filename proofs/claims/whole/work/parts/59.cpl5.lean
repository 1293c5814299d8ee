theorem z_any_true {p : Nat → Bool} : ∀ (d k i : Nat), k ≤ i → i < k + d → p i = true → z_any p k d = true
  | 0, _, _, h1, h2, _ => by omega
  | d + 1, k, i, h1, h2, h => by
    simp only [z_any]
    by_cases g : i = k
    · rw [← g, h]; rfl
    · rw [z_any_true d (k + 1) i (by omega) (by omega) h]; simp
theorem z_any_none {p : Nat → Bool} : ∀ (d k : Nat), (∀ i, k ≤ i → i < k + d → p i = false) → z_any p k d = false
  | 0, _, _ => rfl
  | d + 1, k, h => by
    simp only [z_any]
    rw [h k (by omega) (by omega), z_any_none d (k + 1) (fun i h1 h2 => h i (by omega) (by omega))]; rfl
def Cr (A : vA) (M : vM) : Prop := ∀ t, t < A.1.1.1.2 → M.2.1.2.1 9 t = A.2.1.1.2 3 t ∧ ∀ i, i < A.2.1.1.2 3 t → ((¬ A.2.1.2.2.2 t i < 16) ↔ M.2.1.2.2 11 t i ≠ 2) ∧ (M.2.1.2.2 11 t i ≠ 2 → a_st A t i = M.2.1.2.2 10 t i ∧ M.2.1.2.2 10 t i < t)
theorem Cr.of {A : vA} {M : vM} (hn : A.1.1.1.1 ≤ 16) (h : ∀ t, t < A.1.1.1.2 → Cs A M t) : Cr A M := by
  intro t ht
  refine ⟨(h t ht).nr, fun i hi => ?_⟩
  rcases (h t ht).code hn hi with ⟨h1, h2, h3, h4⟩ | ⟨h1, h2, h3, h4, h5⟩
  · exact ⟨⟨fun q => absurd h4 q, fun q => absurd h1 q⟩, fun q => absurd h1 q⟩
  · exact ⟨⟨fun _ => by omega, fun _ => h3⟩, fun _ => ⟨h4, h2⟩⟩
def m_tq (M : vM) (r t : Nat) : Bool := z_any (m_tp M t r) 0 (M.2.1.2.1 9 t)
theorem a_t1_Z (x : Int32) (A : vA) (s j r : Nat) : (a_t1 x A s).2.1.2.1 j r = if j = 7 then (if r = s then A.2.1.2.1 7 s || z_bit x s else A.2.1.2.1 7 r) || ((A.2.1.2.1 7 s || z_bit x s) && z_any (fun i => decide (¬ A.2.1.2.2.2 s i < 16 ∧ a_st A s i = r)) 0 (A.2.1.1.2 3 s)) else A.2.1.2.1 j r := by
  unfold a_t1
  by_cases g : (A.2.1.2.1 7 s || z_bit x s) = true
  · rw [if_pos g, g]
    simp only [a_rt, a_t0, a_st, Bool.true_and]
    by_cases hj : j = 7
    · subst hj
      rw [if_pos rfl]
      by_cases hr : r = s
      · subst hr; simp only [up2, and_self, if_true, g, decide_true, Bool.true_and]; rfl
      · simp only [up2, hr, and_false, if_false, decide_true, Bool.true_and]; rfl
    · simp only [up2, hj, false_and, if_false, decide_false, Bool.false_and, Bool.or_false]
  · have g' : (A.2.1.2.1 7 s || z_bit x s) = false := by simpa using g
    rw [if_neg g, g']
    simp only [a_t0, Bool.false_and, Bool.or_false]
    by_cases hj : j = 7
    · subst hj
      by_cases hr : r = s
      · subst hr; simp only [up2, and_self, if_true, g']
      · simp only [up2, hr, and_false, if_false, if_true]
    · simp only [up2, hj, false_and, if_false]
theorem a_tk_Z (x : Int32) : ∀ (s : Nat) (A : vA) (j r : Nat), j ≠ 7 → (a_tk x s A).2.1.2.1 j r = A.2.1.2.1 j r
  | 0, _, _, _, _ => rfl
  | s + 1, A, j, r, h => by
    show (a_tk x s (a_t1 x A s)).2.1.2.1 j r = _
    rw [a_tk_Z x s _ j r h, a_t1_Z, if_neg h]
theorem m_tk_Z (x : Int32) : ∀ (s : Nat) (M : vM) (j : Nat), j ≠ 21 → (m_tk x s M).1.2.1 j = M.1.2.1 j
  | 0, _, _, _ => rfl
  | s + 1, M, j, h => by
    show (m_tk x s (m_t1 x M s)).1.2.1 j = _
    rw [m_tk_Z x s _ j h]
    funext r; simp [m_t1, up2, h]
theorem m_tk_re (x : Int32) : ∀ (s : Nat) (M : vM), ∃ Z, m_tk x s M = { M with fst.snd.fst := Z }
  | 0, M => ⟨M.1.2.1, rfl⟩
  | s + 1, M => by
    obtain ⟨Z, h⟩ := m_tk_re x s (m_t1 x M s)
    exact ⟨Z, by show m_tk x s (m_t1 x M s) = _; rw [h]; rfl⟩
theorem cp_tk (x : Int32) : ∀ (s : Nat) (A : vA) (M : vM), Cr A M → M.1.1.2.1 2 = A.1.1.1.2 → s ≤ A.1.1.1.2 → (∀ t, s ≤ t → t < A.1.1.1.2 → A.2.1.2.1 7 t = M.1.2.1 21 t) → (∀ r, r < s → A.2.1.2.1 7 r = z_any (m_tq M r) s (A.1.1.1.2 - s)) → (∀ t u i, s ≤ u → u < t → t < A.1.1.1.2 → M.1.2.1 21 t = true → i < M.2.1.2.1 9 t → M.2.1.2.2 11 t i ≠ 2 → M.2.1.2.2 10 t i = u → M.1.2.1 21 u = true) → (∀ t, t < A.1.1.1.2 → (a_tk x s A).2.1.2.1 7 t = (m_tk x s M).1.2.1 21 t) ∧ (∀ t u i, u < t → t < A.1.1.1.2 → (m_tk x s M).1.2.1 21 t = true → i < M.2.1.2.1 9 t → M.2.1.2.2 11 t i ≠ 2 → M.2.1.2.2 10 t i = u → (m_tk x s M).1.2.1 21 u = true)
  | 0, A, M, _, _, _, h1, _, h3 => ⟨fun t ht => h1 t (by omega) ht, fun t u i => h3 t u i (by omega)⟩
  | s + 1, A, M, hr, hk, hs, h1, h2, h3 => by
    have ez : A.2.1.2.1 7 s = z_any (m_tq M s) (s + 1) (A.1.1.1.2 - (s + 1)) := h2 s (by omega)
    have em : (m_t1 x M s).1.2.1 21 s = (A.2.1.2.1 7 s || z_bit x s) := by
      rw [ez]
      simp only [m_t1, up2, and_self, if_true, hk]
      rw [Bool.or_comm]; rfl
    have eo : ∀ t, t ≠ s → (m_t1 x M s).1.2.1 21 t = M.1.2.1 21 t := fun t ht => by simp [m_t1, up2, ht]
    have etq : ∀ r t, t ≠ s → m_tq (m_t1 x M s) r t = m_tq M r t := by
      intro r t ht
      unfold m_tq
      refine z_any_congr _ _ fun i _ _ => ?_
      unfold m_tp
      rw [eo t ht]; rfl
    have eA : a_tk x (s + 1) A = a_tk x s (a_t1 x A s) := rfl
    have eM : m_tk x (s + 1) M = m_tk x s (m_t1 x M s) := rfl
    obtain ⟨Z, hZ⟩ := a_t1_same x A s
    have ns1 : (a_t1 x A s).1.1.1.2 = A.1.1.1.2 := by rw [hZ]
    have rd1 : (a_t1 x A s).2.1.2.2.2 = A.2.1.2.2.2 := by rw [hZ]
    have sn1 : (a_t1 x A s).2.1.1.2 = A.2.1.1.2 := by rw [hZ]
    have hr1 : Cr (a_t1 x A s) (m_t1 x M s) := by
      intro t ht
      rw [ns1] at ht
      have := hr t ht
      unfold a_st at this ⊢
      rw [sn1, rd1]
      exact this
    have rs := hr s (by omega)
    have nos : z_any (fun i => decide (¬ A.2.1.2.2.2 s i < 16 ∧ a_st A s i = s)) 0 (A.2.1.1.2 3 s) = false := by
      refine z_any_none _ _ fun i _ hi => ?_
      have := rs.2 i (by omega)
      refine decide_eq_false fun q => ?_
      have := this.2 (this.1.1 q.1)
      omega
    rw [eA, eM]
    have key := cp_tk x s (a_t1 x A s) (m_t1 x M s) hr1 (by rw [ns1]; exact hk) (by rw [ns1]; omega) ?_ ?_ ?_
    · rw [ns1] at key; exact key
    · rw [ns1]
      intro t ht1 ht2
      rw [a_t1_Z, if_pos rfl]
      by_cases g : t = s
      · subst g
        rw [if_pos rfl, nos, em, Bool.and_false, Bool.or_false]
      · have nx : z_any (fun i => decide (¬ A.2.1.2.2.2 s i < 16 ∧ a_st A s i = t)) 0 (A.2.1.1.2 3 s) = false := by
          refine z_any_none _ _ fun i _ hi => ?_
          have := rs.2 i (by omega)
          refine decide_eq_false fun q => ?_
          have := this.2 (this.1.1 q.1)
          omega
        rw [if_neg g, nx, Bool.and_false, Bool.or_false, eo t g]
        exact h1 t (by omega) ht2
    · rw [ns1]
      intro r hr'
      rw [a_t1_Z, if_pos rfl, if_neg (by omega), h2 r (by omega)]
      have : A.1.1.1.2 - s = (A.1.1.1.2 - (s + 1)) + 1 := by omega
      rw [this]
      simp only [z_any]
      rw [Bool.or_comm]
      congr 1
      · show _ = z_any (m_tp (m_t1 x M s) s r) 0 (M.2.1.2.1 9 s)
        rw [rs.1]
        obtain ⟨c, hc⟩ : ∃ c, (A.2.1.2.1 7 s || z_bit x s) = c := ⟨_, rfl⟩
        rw [hc]
        rw [hc] at em
        cases c with
        | false =>
          rw [Bool.false_and]
          refine (z_any_none _ _ fun i _ hi => ?_).symm
          unfold m_tp; rw [em]; rfl
        | true =>
          rw [Bool.true_and]
          refine z_any_congr _ _ fun i _ hi => ?_
          unfold m_tp
          rw [em, Bool.true_and]
          have q := rs.2 i (by omega)
          refine decide_eq_decide.2 ⟨fun g => ?_, fun g => ?_⟩
          · have g1 := q.1.1 g.1
            exact ⟨g1, by have := (q.2 g1).1; have := g.2; show M.2.1.2.2 10 s i = r; omega⟩
          · have g0 : M.2.1.2.2 11 s i ≠ 2 := g.1
            have g1 := q.1.2 g0
            exact ⟨g1, by have := (q.2 g0).1; have : M.2.1.2.2 10 s i = r := g.2; omega⟩
      · refine z_any_congr _ _ fun t ht _ => (etq r t (by omega)).symm
    · rw [ns1]
      intro t u i hu hut ht hz hi h11 h10
      have hy : M.1.2.1 21 t = true := by rw [← eo t (by omega)]; exact hz
      by_cases g : u = s
      · subst g
        rw [em, ez]
        have : z_any (m_tq M u) (u + 1) (A.1.1.1.2 - (u + 1)) = true := by
          refine z_any_true _ _ t (by omega) (by omega) ?_
          unfold m_tq
          refine z_any_true _ _ i (by omega) (by have : i < M.2.1.2.1 9 t := hi; omega) ?_
          unfold m_tp
          rw [hy]
          have a1 : M.2.1.2.2 11 t i ≠ 2 := h11
          have a2 : M.2.1.2.2 10 t i = u := h10
          simp [a1, a2]
        rw [this]; rfl
      · rw [eo u g]
        exact h3 t u i (by omega) hut ht hy hi h11 h10
