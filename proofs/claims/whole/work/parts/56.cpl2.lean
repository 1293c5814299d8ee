theorem Cs.cc {A : vA} {M : vM} {s : Nat} (h : Cs A M s) (C C' : Nat → Int32) (c : Int32) (O T T' : Nat → Int32) : Cs { A with fst.snd.snd.fst := C, fst.snd.snd.snd.snd := c, fst.snd.snd.snd.fst := T } { M with fst.snd.snd.snd := C', fst.fst.fst := O, snd.fst.fst := T' } s := ⟨h.j4, h.j5, h.nr, h.nc, h.fo, h.st, h.ca, h.rd, h.ok, fun k hk => ⟨(h.en k hk).f, (h.en k hk).y, (h.en k hk).c, (h.en k hk).w, (h.en k hk).h⟩, h.inj⟩
theorem cp_th {A : vA} {M : vM} {s i : Nat} (W : WA A) (F : Cf A M) (h : Cs A M s) (hi : i < A.2.1.1.2 3 s) : a_th A s i = m_th M s i := by
  rcases h.code W.nf hi with ⟨h1, h2, h3, h4⟩ | ⟨h1, h2, h3, h4, h5⟩
  · simp only [a_th, m_th, h1, if_true, h4, h3, h2, decide_true, Bool.true_and, F.fz _ h2]
    rw [h3] at h4
    simp only [h4, if_true]
  · simp only [a_th, m_th, h3, if_false, show ¬ M.2.1.2.2 11 s i = 2 by omega]
theorem cp_va {A : vA} {M : vM} {s i : Nat} (W : WA A) (F : Cf A M) (h : Cs A M s) (hi : i < A.2.1.1.2 3 s) (hp : ¬ A.2.1.2.2.2 s i < 16 → Cs A M (M.2.1.2.2 10 s i) ∧ 0 < A.2.1.1.2 5 (M.2.1.2.2 10 s i)) : a_va A s i = m_va M s i := by
  rcases h.code W.nf hi with ⟨h1, h2, h3, h4⟩ | ⟨h1, h2, h3, h4, h5⟩
  · rw [h3] at h4
    simp only [a_va, m_va, h1, if_true, h3, h4, h2, F.fz _ h2, F.fj _ h2]
    split
    · rename_i g; exact F.fc _ h2 g
    · rfl
  · obtain ⟨g1, g2⟩ := hp h3
    have e := g1.en 0 g2
    simp only [a_va, m_va, h3, if_false, show ¬ M.2.1.2.2 11 s i = 2 by omega, h4, h5, a_ov, m_pt, show ¬ A.2.1.1.2 5 (M.2.1.2.2 10 s i) = 0 by omega]
    split
    · rw [e.c, g1.j4]
    · exact e.y
theorem cp_bl {A : vA} {M : vM} {s : Nat} (W : WA A) (h : Cs A M s) (hr : ∀ r, r < s → Cs A M r) : a_bl A s = m_bl M s := by
  unfold a_bl m_bl
  rw [h.nr]
  refine z_any_congr _ _ fun i _ hi => ?_
  rcases h.code W.nf (i := i) (by omega) with ⟨h1, h2, h3, h4⟩ | ⟨h1, h2, h3, h4, h5⟩
  · simp [a_bp, m_bp, h1, h4]
  · have g := (hr _ h2).st
    simp only [a_bp, m_bp, h3, show M.2.1.2.2 11 s i ≠ 2 by omega, h4, g, not_false_eq_true, ne_eq, true_and]
theorem cp_mk {A : vA} {M : vM} {s : Nat} (W : WA A) (F : Cf A M) (h : Cs A M s) (hm : ∀ r, r < s → A.2.1.2.1 8 r = M.1.2.1 22 r) : a_mk A s = (decide (M.2.1.2.1 12 s = 0) || M.1.2.1 7 s || z_any (m_mp M s) 0 (M.2.1.2.1 9 s)) := by
  unfold a_mk
  rw [h.nc, h.fo, h.nr]
  by_cases g0 : A.2.1.1.2 5 s = 0
  · simp [g0]
  · congr 1
    refine z_any_congr _ _ fun i _ hi => ?_
    have hi : i < A.2.1.1.2 3 s := by omega
    have e := h.en 0 (by omega)
    rcases h.code W.nf hi with ⟨h1, h2, h3, h4⟩ | ⟨h1, h2, h3, h4, h5⟩
    · have ev := cp_va W F h hi (fun q => absurd h4 q)
      have et := cp_th W F h hi
      simp only [a_mr, m_mp, h4, if_true, h1, m_as, e.w i hi, e.h i hi, ev, et]
    · simp only [a_mr, m_mp, h3, if_false, show ¬ M.2.1.2.2 11 s i = 2 by omega, h4]
      exact hm _ h2
theorem Cs.rn {A : vA} {M : vM} {s : Nat} (h : Cs A M s) (h3 : A.2.1.1.2 5 s ≤ 3) : Cs (a_rn A s) M s := by
  refine ⟨h.j4, h.j5, h.nr, h.nc, h.fo, h.st, h.ca, h.rd, h.ok, fun k hk => ?_, h.inj⟩
  have hk : k < A.2.1.1.2 5 s := hk
  have hne : A.2.2.1.1 s k ≠ A.2.2.1.1 s 3 := fun q => by have := h.inj k 3 (by omega) (by omega) q; omega
  have e := h.en k hk
  refine ⟨e.f, e.y, e.c, fun i hi => ?_, fun i hi => ?_⟩
  · rw [← e.w i hi]; simp [a_rn, hne]
  · rw [← e.h i hi]; simp [a_rn, hne]
def Sp (A : vA) (M : vM) (s : Nat) : Prop := (∀ i, i < A.2.1.1.2 3 s → A.2.2.2.2.1 s (A.2.2.1.1 s 3) i = m_th M s i) ∧ (∀ i, i < A.2.1.1.2 3 s → A.2.2.2.2.2 s (A.2.2.1.1 s 3) i = m_va M s i)
theorem Sp.h {A : vA} {M : vM} {s : Nat} (z_h : Sp A M s) : ∀ i, i < A.2.1.1.2 3 s → A.2.2.2.2.1 s (A.2.2.1.1 s 3) i = m_th M s i := z_h.1
theorem Sp.w {A : vA} {M : vM} {s : Nat} (z_h : Sp A M s) : ∀ i, i < A.2.1.1.2 3 s → A.2.2.2.2.2 s (A.2.2.1.1 s 3) i = m_va M s i := z_h.2
theorem cp_df {A : vA} {M : vM} {s k i : Nat} (h : Cs A M s) (P : Sp A M s) (hk : k < A.2.1.1.2 5 s) (hi : i < A.2.1.1.2 3 s) : a_df A s (A.2.2.1.1 s k) (A.2.2.1.1 s 3) i = !(m_as M s k i) := by
  have e := h.en k hk
  simp only [a_df, m_as, e.w i hi, e.h i hi, P.h i hi, P.w i hi]
theorem cp_ps {A : vA} {M : vM} {s : Nat} (h : Cs A M s) (P : Sp A M s) : a_ps A s (A.2.2.1.1 s 3) = m_mt M s := by
  unfold a_ps m_mt
  rw [h.nc, h.nr]
  refine z_fst_congr _ _ fun k _ hk => ?_
  rw [z_all_fst]
  congr 1
  exact z_fst_congr _ _ fun i _ hi => cp_df h P (by omega) (by omega)
theorem cp_ca {A : vA} {M : vM} {s : Nat} (W : WA A) (h : Cs A M s) (P : Sp A M s) (hm : A.2.1.2.1 6 s = true ∨ m_mt M s = none) : a_ca A s = m_ca M s := by
  unfold a_ca m_ca
  rw [h.nc, h.fo, h.nr]
  by_cases g0 : A.2.1.1.2 5 s = 0
  · simp [g0]
  · simp only [g0, if_false]
    by_cases g1 : A.2.1.2.1 6 s = true
    · simp [g1]
    · simp only [g1, if_false]
      have hm : m_mt M s = none := hm.resolve_left g1
      have e : z_fst (a_df A s (A.2.2.1.1 s 0) (A.2.2.1.1 s 3)) 0 (A.2.1.1.2 3 s) = z_fst (fun i => !(m_as M s 0 i)) 0 (A.2.1.1.2 3 s) := z_fst_congr _ _ fun i _ hi => cp_df h P (by omega) (by omega)
      rw [e]
      cases hz : z_fst (fun i => !(m_as M s 0 i)) 0 (A.2.1.1.2 3 s) with
      | none =>
        exfalso
        have ha : z_all (m_as M s 0) 0 (A.2.1.1.2 3 s) = true := by rw [z_all_fst, hz]; rfl
        unfold m_mt at hm
        rw [h.nc, h.nr] at hm
        obtain ⟨c, hc⟩ : ∃ c, A.2.1.1.2 5 s = c + 1 := ⟨A.2.1.1.2 5 s - 1, by omega⟩
        rw [hc] at hm
        simp [z_fst, ha] at hm
      | some i =>
        have hi := (z_fst_lt _ _ _ _ hz).2.1
        rcases h.code W.nf (i := i) (by omega) with ⟨h1, h2, h3, h4⟩ | ⟨h1, h2, h3, h4, h5⟩
        · simp only [h4, if_true, h1]
        · simp only [h3, if_false, show ¬ M.2.1.2.2 11 s i = 2 by omega]
def z_br (k j : Nat) : Nat := if j = 0 then k else if j ≤ k then j - 1 else j
theorem z_sh_3 {k : Nat} (hk : k < 3) : z_sh k 3 = 3 := by unfold z_sh; rw [if_neg (by omega)]
theorem m_br_ent {M : vM} {s k j : Nat} (hk : k < 3) (hj : j < 3) : (m_br M s k).2.2.1.2 s j = M.2.2.1.2 s (z_br k j) ∧ (m_br M s k).2.2.1.1 s j = M.2.2.1.1 s (z_br k j) ∧ (m_br M s k).2.2.2.1 s j = M.2.2.2.1 s (z_br k j) ∧ (m_br M s k).2.2.2.2 s j = M.2.2.2.2 s (z_br k j) := by
  have h1 : ∀ j, j < 3 → j ≠ 0 → z_sh k j = z_br k j ∧ z_br k j ≠ 3 := by
    intro j h1 h2
    unfold z_sh z_br
    rw [if_neg h2]
    by_cases g : j ≤ k
    · rw [if_pos (by omega), if_pos g]; exact ⟨rfl, by omega⟩
    · rw [if_neg (by omega), if_neg g]; exact ⟨rfl, by omega⟩
  have e3 := m_mv_ent s k (m_cp M s k 3) s 3
  have ej := m_mv_ent s k (m_cp M s k 3) s j
  simp only [if_true] at e3 ej
  rw [z_sh_3 hk] at e3
  by_cases h0 : j = 0
  · subst h0
    have hb : z_br k 0 = k := rfl
    rw [hb]
    refine ⟨?_, ?_, ?_, ?_⟩
    · show up2 (m_mv s k (m_cp M s k 3)).2.2.1.2 s 0 ((m_mv s k (m_cp M s k 3)).2.2.1.2 s 3) s 0 = _
      simp only [up2, and_self, if_true]
      rw [e3.1]; simp [m_cp, up2]
    · show up2 (m_mv s k (m_cp M s k 3)).2.2.1.1 s 0 ((m_mv s k (m_cp M s k 3)).2.2.1.1 s 3) s 0 = _
      simp only [up2, and_self, if_true]
      rw [e3.2.1]; simp [m_cp, up2]
    · funext i
      show (if s = s ∧ 0 = 0 then (m_mv s k (m_cp M s k 3)).2.2.2.1 s 3 i else _) = _
      simp only [and_self, if_true]
      rw [e3.2.2.1]; simp [m_cp]
    · funext i
      show (if s = s ∧ 0 = 0 then (m_mv s k (m_cp M s k 3)).2.2.2.2 s 3 i else _) = _
      simp only [and_self, if_true]
      rw [e3.2.2.2]; simp [m_cp]
  · obtain ⟨g1, g2⟩ := h1 j hj h0
    rw [g1] at ej
    refine ⟨?_, ?_, ?_, ?_⟩
    · show up2 (m_mv s k (m_cp M s k 3)).2.2.1.2 s 0 ((m_mv s k (m_cp M s k 3)).2.2.1.2 s 3) s j = _
      simp only [up2, h0, and_false, if_false]
      rw [ej.1]; simp [m_cp, up2, g2]
    · show up2 (m_mv s k (m_cp M s k 3)).2.2.1.1 s 0 ((m_mv s k (m_cp M s k 3)).2.2.1.1 s 3) s j = _
      simp only [up2, h0, and_false, if_false]
      rw [ej.2.1]; simp [m_cp, up2, g2]
    · funext i
      show (if s = s ∧ j = 0 then (m_mv s k (m_cp M s k 3)).2.2.2.1 s 3 i else (m_mv s k (m_cp M s k 3)).2.2.2.1 s j i) = _
      simp only [h0, and_false, if_false]
      rw [ej.2.2.1]; simp [m_cp, g2]
    · funext i
      show (if s = s ∧ j = 0 then (m_mv s k (m_cp M s k 3)).2.2.2.2 s 3 i else (m_mv s k (m_cp M s k 3)).2.2.2.2 s j i) = _
      simp only [h0, and_false, if_false]
      rw [ej.2.2.2]; simp [m_cp, g2]
theorem z_pf_br (f : Nat → Nat) (k j : Nat) : z_pf f k (f k) j = f (z_br k j) := by
  unfold z_pf z_br
  split
  · rfl
  · split <;> rfl
theorem cp_reuse {A : vA} {M : vM} {s k : Nat} (W : WA A) (hs : s < A.1.1.1.2) (h : Cs A M s) (hk : k < A.2.1.1.2 5 s) (h10 : A.2.1.2.2.1 10 s = -1) : Cs (a_ru A s k) (m_bM M s k) s ∧ ((a_ru A s k).2.1.2.2.1 9 s = 2 ∨ (a_ru A s k).2.1.2.2.1 9 s = 6 ↔ (k ≠ 0 ∧ m_ho (m_bM M s k) s = true)) ∧ (a_ru A s k).2.1.2.2.1 9 s ≠ 2 ∧ (a_ru A s k).2.1.2.2.1 10 s = -1 := by
  have h3 := W.nc s hs
  obtain ⟨a1, a2, a3, a4, a5, a6, a7, a8, a9⟩ := m_br_same M s k
  have eF : (m_br M s k).2.2.1.1 s 0 = A.2.2.1.2 s (A.2.2.1.1 s k) := by rw [(m_br_ent (by omega) (by omega)).2.1, (h.en k hk).f]; rfl
  have eho : m_ho (m_br M s k) s = decide (A.2.2.1.2 s (A.2.2.1.1 s k) = -1) := by
    unfold m_ho
    rw [a1, eF, h.nc]
    simp [show 0 < A.2.1.1.2 5 s by omega]
  have eho' : m_ho (m_bM M s k) s = decide (A.2.2.1.2 s (A.2.2.1.1 s k) = -1) := eho
  have est : (if m_ho (m_br M s k) s = false then (4 : Int32) else if k = 0 then 1 else 6) = (if A.2.2.1.2 s (A.2.2.1.1 s k) = -1 then (if k = 0 then 1 else 6) else 4) := by
    rw [eho]
    by_cases g : A.2.2.1.2 s (A.2.2.1.1 s k) = -1 <;> simp [g]
  have e9 : (a_ru A s k).2.1.2.2.1 9 s = if A.2.2.1.2 s (A.2.2.1.1 s k) = -1 then (if k = 0 then 1 else 6) else 4 := by simp [a_ru, up2]
  have n2 : (a_ru A s k).2.1.2.2.1 9 s ≠ 2 := by
    rw [e9]
    split
    · split <;> decide
    · decide
  have n3 : (a_ru A s k).2.1.2.2.1 9 s ≠ 3 := by
    rw [e9]
    split
    · split <;> decide
    · decide
  refine ⟨⟨?_, ?_, ?_, ?_, h.fo, ?_, ?_, ?_, ?_, fun j hj => ?_, fun j j' hj hj' q => ?_⟩, ?_, n2, ?_⟩
  · show (m_br M s k).1.1.2.2 4 s = A.2.1.1.1 0 s
    rw [a3]; exact h.j4
  · show (m_br M s k).1.1.2.2 5 s = A.2.1.1.1 1 s
    rw [a3]; exact h.j5
  · show (m_br M s k).2.1.2.1 9 s = A.2.1.1.2 3 s
    rw [a1]; exact h.nr
  · show (m_br M s k).2.1.2.1 12 s = A.2.1.1.2 5 s
    rw [a1]; exact h.nc
  · rw [e9, ← est]; simp [m_bM, up2]
  · rw [if_neg (fun q => q.elim n2 n3)]
    rw [← h10]; simp [a_ru, up2]
  · intro i hi
    show A.2.1.2.2.2 s i = z_cd ((m_br M s k).2.1.2.2 10 s i) ((m_br M s k).2.1.2.2 11 s i)
    rw [a2]; exact h.rd i hi
  · intro i hi
    show ((m_br M s k).2.1.2.2 11 s i = 2 ∧ (m_br M s k).2.1.2.2 10 s i < A.1.1.1.1) ∨ ((m_br M s k).2.1.2.2 11 s i < 2 ∧ (m_br M s k).2.1.2.2 10 s i < s)
    rw [a2]; exact h.ok i hi
  · have hj : j < A.2.1.1.2 5 s := hj
    have hb : z_br k j < A.2.1.1.2 5 s := by unfold z_br; split; exact hk; split <;> omega
    have e := h.en _ hb
    have ep : (a_ru A s k).2.2.1.1 s j = A.2.2.1.1 s (z_br k j) := by
      show (if s = s then z_pf (A.2.2.1.1 s) k (A.2.2.1.1 s k) else A.2.2.1.1 s) j = _
      rw [if_pos rfl, z_pf_br]
    obtain ⟨b1, b2, b3, b4⟩ := m_br_ent (M := M) (s := s) (k := k) (j := j) (by omega) (by omega)
    refine ⟨?_, ?_, ?_, ?_, ?_⟩
    · rw [ep]; show A.2.2.1.2 s _ = (m_br M s k).2.2.1.1 s j; rw [b2]; exact e.f
    · rw [ep]; show A.2.2.2.1 4 s _ = (m_br M s k).2.2.1.2 s j; rw [b1]; exact e.y
    · rw [ep]; show A.2.2.2.1 3 s _ = (m_br M s k).2.2.1.2 s j &&& A.2.1.1.1 0 s; rw [b1]; exact e.c
    · intro i hi; rw [ep]; show A.2.2.2.2.2 s _ i = (m_br M s k).2.2.2.1 s j i; rw [b3]; exact e.w i hi
    · intro i hi; rw [ep]; show A.2.2.2.2.1 s _ i = (m_br M s k).2.2.2.2 s j i; rw [b4]; exact e.h i hi
  · have hb : ∀ j, j < 4 → z_br k j < 4 := fun j hj => by unfold z_br; split; omega; split <;> omega
    have ep : ∀ j, (a_ru A s k).2.2.1.1 s j = A.2.2.1.1 s (z_br k j) := by
      intro j
      show (if s = s then z_pf (A.2.2.1.1 s) k (A.2.2.1.1 s k) else A.2.2.1.1 s) j = _
      rw [if_pos rfl, z_pf_br]
    rw [ep, ep] at q
    have := h.inj _ _ (hb j hj) (hb j' hj') q
    unfold z_br at this
    by_cases g1 : j = 0
    · by_cases g2 : j' = 0
      · omega
      · rw [if_pos g1, if_neg g2] at this
        split at this <;> omega
    · by_cases g2 : j' = 0
      · rw [if_neg g1, if_pos g2] at this
        split at this <;> omega
      · rw [if_neg g1, if_neg g2] at this
        split at this <;> split at this <;> omega
  · rw [e9, eho']
    by_cases g : A.2.2.1.2 s (A.2.2.1.1 s k) = -1
    · by_cases g0 : k = 0
      · rw [if_pos g, if_pos g0]
        exact ⟨fun q => absurd q (by decide), fun q => absurd g0 q.1⟩
      · simp [g, g0]
    · simp only [g, if_false, decide_false, Bool.false_eq_true, and_false, iff_false]
      decide
  · rw [← h10]; simp [a_ru, up2]
