theorem z_any_false {p : Nat → Bool} : ∀ (d k : Nat), z_any p k d = false → ∀ i, k ≤ i → i < k + d → p i = false
  | 0, _, _, _, h1, h2 => by omega
  | d + 1, k, h, i, h1, h2 => by
    simp only [z_any, Bool.or_eq_false_iff] at h
    by_cases g : i = k
    · rw [g]; exact h.1
    · exact z_any_false d (k + 1) h.2 i (by omega) (by omega)
theorem a_cm_no {A : vA} {s : Nat} {m : Option Nat} (h : ¬ (A.2.1.2.2.1 9 s = 2 ∨ A.2.1.2.2.1 9 s = 6)) : a_cm A s m = A := by
  cases m with
  | none => rfl
  | some j => simp only [a_cm]; rw [if_neg (fun q => h q.1)]
def Cc (A A2 : vA) (M M2 : vM) (s : Nat) : Prop := (∀ i, M.1.2.2.2 i = A.1.2.2.1 i → M2.1.2.2.2 i = A2.1.2.2.1 i) ∧ (A2.1.2.2.1 0 = A.1.2.2.1 0) ∧ (M2.1.2.2.2 0 = M.1.2.2.2 0) ∧ (M.1.1.1 23 = A.1.2.2.2.2 → M2.1.1.1 23 = A2.1.2.2.2.2) ∧ (M2.1.1.1 24 = M.1.1.1 24) ∧ (M2.2.1.1 = M.2.1.1) ∧ (A2.1.2.2.2.1 = A.1.2.2.2.1) ∧ (A2.2.1.2.2.1 = A.2.1.2.2.1) ∧ (A2.2.1.1.2 = A.2.1.1.2) ∧ (Cs A M s → Cs A2 M2 s)
theorem Cc.c {A A2 : vA} {M M2 : vM} {s : Nat} (z_h : Cc A A2 M M2 s) : ∀ i, M.1.2.2.2 i = A.1.2.2.1 i → M2.1.2.2.2 i = A2.1.2.2.1 i := z_h.1
theorem Cc.c0 {A A2 : vA} {M M2 : vM} {s : Nat} (z_h : Cc A A2 M M2 s) : A2.1.2.2.1 0 = A.1.2.2.1 0 := z_h.2.1
theorem Cc.m0 {A A2 : vA} {M M2 : vM} {s : Nat} (z_h : Cc A A2 M M2 s) : M2.1.2.2.2 0 = M.1.2.2.2 0 := z_h.2.2.1
theorem Cc.u {A A2 : vA} {M M2 : vM} {s : Nat} (z_h : Cc A A2 M M2 s) : M.1.1.1 23 = A.1.2.2.2.2 → M2.1.1.1 23 = A2.1.2.2.2.2 := z_h.2.2.2.1
theorem Cc.l {A A2 : vA} {M M2 : vM} {s : Nat} (z_h : Cc A A2 M M2 s) : M2.1.1.1 24 = M.1.1.1 24 := z_h.2.2.2.2.1
theorem Cc.t {A A2 : vA} {M M2 : vM} {s : Nat} (z_h : Cc A A2 M M2 s) : M2.2.1.1 = M.2.1.1 := z_h.2.2.2.2.2.1
theorem Cc.ta {A A2 : vA} {M M2 : vM} {s : Nat} (z_h : Cc A A2 M M2 s) : A2.1.2.2.2.1 = A.1.2.2.2.1 := z_h.2.2.2.2.2.2.1
theorem Cc.si {A A2 : vA} {M M2 : vM} {s : Nat} (z_h : Cc A A2 M M2 s) : A2.2.1.2.2.1 = A.2.1.2.2.1 := z_h.2.2.2.2.2.2.2.1
theorem Cc.sn {A A2 : vA} {M M2 : vM} {s : Nat} (z_h : Cc A A2 M M2 s) : A2.2.1.1.2 = A.2.1.1.2 := z_h.2.2.2.2.2.2.2.2.1
theorem Cc.cs {A A2 : vA} {M M2 : vM} {s : Nat} (z_h : Cc A A2 M M2 s) : Cs A M s → Cs A2 M2 s := z_h.2.2.2.2.2.2.2.2.2
theorem Cc.refl (A : vA) (M : vM) (s : Nat) : Cc A A M M s := ⟨fun _ h => h, rfl, rfl, fun h => h, rfl, rfl, rfl, rfl, rfl, fun h => h⟩
theorem cp_cm {A A2 : vA} {M M2 : vM} {s : Nat} (dn : Bool) (h : Cs A M s) (h2 : Cs A2 M2 s) (n0 : 0 < A2.2.1.1.2 5 s) (hho : (A2.2.1.2.2.1 9 s = 2 ∨ A2.2.1.2.2.1 9 s = 6) ↔ m_ho M2 s = true) (hdn : m_ho M2 s = true → (A2.2.1.2.2.1 9 s = 2 ↔ dn = true)) (hE : 0 < A.2.1.1.2 5 s → A2.2.2.1.2 s (A.2.2.1.1 s 0) = A.2.2.1.2 s (A.2.2.1.1 s 0) ∧ A2.2.2.2.1 3 s (A.2.2.1.1 s 0) = A.2.2.2.1 3 s (A.2.2.1.1 s 0) ∧ A2.2.2.2.1 4 s (A.2.2.1.1 s 0) = A.2.2.2.1 4 s (A.2.2.1.1 s 0)) (hJ : M2.1.1.2.2 = M.1.1.2.2) : Cc A2 (a_cm A2 s (a_bo A s)) M2 (m_cm M2 s (m_ho M s) (m_of M s 0) (m_of M s 1) dn) s := by
  by_cases g : m_ho M2 s = true
  case neg =>
    rw [a_cm_no (fun q => g (hho.1 q))]
    have : m_cm M2 s (m_ho M s) (m_of M s 0) (m_of M s 1) dn = M2 := by unfold m_cm; rw [if_neg (by simp [g])]
    rw [this]; exact Cc.refl _ _ _
  by_cases g0 : A.2.1.1.2 5 s = 0
  · have e1 : a_bo A s = none := by simp [a_bo, g0]
    have e2 : m_ho M s = false := by simp [m_ho, h.nc, g0]
    have : m_cm M2 s (m_ho M s) (m_of M s 0) (m_of M s 1) dn = M2 := by unfold m_cm; rw [if_neg (by simp [e2])]
    rw [this, e1]; exact Cc.refl _ _ _
  have e1 : a_bo A s = some (A.2.2.1.1 s 0) := by simp [a_bo, g0]
  obtain ⟨i1, i2, i3⟩ := hE (by omega)
  have e := h.en 0 (by omega)
  have e2 := h2.en 0 n0
  by_cases gf : A.2.2.1.2 s (A.2.2.1.1 s 0) = -1
  case neg =>
    have e3 : m_ho M s = false := by simp [m_ho, ← e.f, gf]
    have : m_cm M2 s (m_ho M s) (m_of M s 0) (m_of M s 1) dn = M2 := by unfold m_cm; rw [if_neg (by simp [e3])]
    rw [this, e1]
    have : a_cm A2 s (some (A.2.2.1.1 s 0)) = A2 := by
      simp only [a_cm]; rw [if_neg]; intro q; exact gf (i1 ▸ q.2.1)
    rw [this]; exact Cc.refl _ _ _
  have e3 : m_ho M s = true := by simp [m_ho, ← e.f, gf, h.nc]; omega
  have f1 : m_of M s 1 = A.2.2.2.1 4 s (A.2.2.1.1 s 0) := by simp [m_of, e3, m_pt, e.y]
  have f0 : m_of M s 0 = A.2.2.2.1 3 s (A.2.2.1.1 s 0) := by simp [m_of, e3, m_pt, e.c, h.j4]
  have p1 : m_pt M2 s 1 = A2.2.2.2.1 4 s (A2.2.2.1.1 s 0) := by simp [m_pt, e2.y]
  have p0 : m_pt M2 s 0 = A2.2.2.2.1 3 s (A2.2.2.1.1 s 0) := by simp [m_pt, e2.c, h2.j4]
  have k1 : A2.2.2.2.1 4 s (A2.2.2.1.1 s 0) = A.2.2.2.1 4 s (A.2.2.1.1 s 0) → A2.2.2.2.1 3 s (A2.2.2.1.1 s 0) = A.2.2.2.1 3 s (A.2.2.1.1 s 0) := by
    intro q
    rw [e2.c, e.c, ← e2.y, ← e.y, q, ← h2.j4, ← h.j4, hJ]
  have eM : m_cm M2 s (m_ho M s) (m_of M s 0) (m_of M s 1) dn = { M2 with fst.snd.snd.snd := up1 (up1 M2.1.2.2.2 1 (M2.1.2.2.2 1 + bI (decide (A2.2.2.2.1 4 s (A2.2.2.1.1 s 0) = A.2.2.2.1 4 s (A.2.2.1.1 s 0))))) 2 (M2.1.2.2.2 2 + bI (!(decide (A2.2.2.2.1 4 s (A2.2.2.1.1 s 0) = A.2.2.2.1 4 s (A.2.2.1.1 s 0))) && decide (A2.2.2.2.1 3 s (A2.2.2.1.1 s 0) = A.2.2.2.1 3 s (A.2.2.1.1 s 0)))), fst.fst.fst := up1 M2.1.1.1 23 (M2.1.1.1 23 + bI (decide (A2.2.2.2.1 4 s (A2.2.2.1.1 s 0) = A.2.2.2.1 4 s (A.2.2.1.1 s 0)) && dn)) } := by
    unfold m_cm
    rw [if_pos (by simp [e3, g]), f1, f0, p1, p0]
    have : decide (A2.2.2.2.1 4 s (A2.2.2.1.1 s 0) = A.2.2.2.1 4 s (A.2.2.1.1 s 0) ∧ A2.2.2.2.1 3 s (A2.2.2.1.1 s 0) = A.2.2.2.1 3 s (A.2.2.1.1 s 0)) = decide (A2.2.2.2.1 4 s (A2.2.2.1.1 s 0) = A.2.2.2.1 4 s (A.2.2.1.1 s 0)) := by
      by_cases q : A2.2.2.2.1 4 s (A2.2.2.1.1 s 0) = A.2.2.2.1 4 s (A.2.2.1.1 s 0)
      · simp [q, k1 q]
      · simp [q]
    rw [this]
  have eA : a_cm A2 s (a_bo A s) = (if A2.2.2.2.1 4 s (A2.2.2.1.1 s 0) = A.2.2.2.1 4 s (A.2.2.1.1 s 0) then { A2 with fst.snd.snd.fst := up1 A2.1.2.2.1 1 (A2.1.2.2.1 1 + 1), fst.snd.snd.snd.snd := if A2.2.1.2.2.1 9 s = 2 then A2.1.2.2.2.2 + 1 else A2.1.2.2.2.2 }
       else if A2.2.2.2.1 3 s (A2.2.2.1.1 s 0) = A.2.2.2.1 3 s (A.2.2.1.1 s 0) then { A2 with fst.snd.snd.fst := up1 A2.1.2.2.1 2 (A2.1.2.2.1 2 + 1) } else A2) := by
    rw [e1]
    simp only [a_cm]
    rw [if_pos ⟨hho.2 g, by rw [i1]; exact gf, by omega⟩, i2, i3]
  rw [eM, eA]
  by_cases q1 : A2.2.2.2.1 4 s (A2.2.2.1.1 s 0) = A.2.2.2.1 4 s (A.2.2.1.1 s 0)
  · rw [if_pos q1]
    refine ⟨?_, ?_, ?_, ?_, ?_, rfl, rfl, rfl, rfl, fun h => h.cc _ _ _ _ _ _⟩
    · intro i hi
      by_cases j1 : i = 1
      · subst j1; simp [up1, q1, bI, hi]
      · by_cases j2 : i = 2
        · subst j2; simp [up1, q1, bI, hi]
        · simp [up1, j1, j2, hi]
    · simp [up1]
    · simp [up1]
    · intro hu
      have hd := hdn g
      by_cases j : A2.2.1.2.2.1 9 s = 2
      · simp [up1, j, hd.1 j, q1, bI, hu]
      · have : dn = false := by cases dn; rfl; exact absurd (hd.2 rfl) j
        simp [up1, j, this, bI, hu]
    · simp [up1]
  · rw [if_neg q1]
    by_cases q2 : A2.2.2.2.1 3 s (A2.2.2.1.1 s 0) = A.2.2.2.1 3 s (A.2.2.1.1 s 0)
    · rw [if_pos q2]
      refine ⟨?_, ?_, ?_, ?_, ?_, rfl, rfl, rfl, rfl, fun h => h.cc _ _ _ _ _ _⟩
      · intro i hi
        by_cases j1 : i = 1
        · subst j1; simp [up1, q1, bI, hi]
        · by_cases j2 : i = 2
          · subst j2; simp [up1, q1, q2, bI, hi]
          · simp [up1, j1, j2, hi]
      · simp [up1]
      · simp [up1]
      · intro hu; simp [up1, q1, bI, hu]
      · simp [up1]
    · rw [if_neg q2]
      refine ⟨?_, ?_, ?_, ?_, ?_, rfl, rfl, rfl, rfl, fun h => h.cc A2.1.2.2.1 _ A2.1.2.2.2.2 _ A2.1.2.2.2.1 _⟩
      · intro i hi
        by_cases j1 : i = 1
        · subst j1; simp [up1, q1, bI, hi]
        · by_cases j2 : i = 2
          · subst j2; simp [up1, q1, q2, bI, hi]
          · simp [up1, j1, j2, hi]
      · simp
      · simp [up1]
      · intro hu; simp [up1, q1, bI, hu]
      · simp [up1]
theorem cp_sum (T : Nat → Int32) (k : Nat) (hk : k < 4) : up1 T k (T k + 1) 0 + up1 T k (T k + 1) 1 + up1 T k (T k + 1) 2 + up1 T k (T k + 1) 3 = T 0 + T 1 + T 2 + T 3 + 1 := by
  have h : k = 0 ∨ k = 1 ∨ k = 2 ∨ k = 3 := by omega
  rcases h with h | h | h | h <;> subst h <;> simp [up1] <;> ac_rfl
def Cg (A : vA) (M : vM) (A' : vA) (p : Bool × vM) (s : Nat) : Prop := (Cs A' p.2 s) ∧ (Cn A' p.2) ∧ (A'.1.2.2.1 4 = A.1.2.2.1 4) ∧ (p.1 = decide (A'.2.1.2.2.1 10 s ≠ -1)) ∧ (A'.2.1.2.2.1 9 s = 5 ∨ 0 < A'.2.1.1.2 5 s)
theorem Cg.cs {A : vA} {M : vM} {A' : vA} {p : Bool × vM} {s : Nat} (z_h : Cg A M A' p s) : Cs A' p.2 s := z_h.1
theorem Cg.cn {A : vA} {M : vM} {A' : vA} {p : Bool × vM} {s : Nat} (z_h : Cg A M A' p s) : Cn A' p.2 := z_h.2.1
theorem Cg.c4 {A : vA} {M : vM} {A' : vA} {p : Bool × vM} {s : Nat} (z_h : Cg A M A' p s) : A'.1.2.2.1 4 = A.1.2.2.1 4 := z_h.2.2.1
theorem Cg.an {A : vA} {M : vM} {A' : vA} {p : Bool × vM} {s : Nat} (z_h : Cg A M A' p s) : p.1 = decide (A'.2.1.2.2.1 10 s ≠ -1) := z_h.2.2.2.1
theorem Cg.ok {A : vA} {M : vM} {A' : vA} {p : Bool × vM} {s : Nat} (z_h : Cg A M A' p s) : A'.2.1.2.2.1 9 s = 5 ∨ 0 < A'.2.1.1.2 5 s := z_h.2.2.2.2
theorem cp_go {A : vA} {M : vM} {s : Nat} (W : WA A) (F : Cf A M) (hs : s < A.1.1.1.2) (hC : ∀ r, r ≤ s → Cs A M r) (N : Cn A M) (hrd : ∀ i, i < A.2.1.1.2 3 s → ¬ A.2.1.2.2.2 s i < 16 → A.2.1.2.2.1 9 (M.2.1.2.2 10 s i) = 5 ∨ 0 < A.2.1.1.2 5 (M.2.1.2.2 10 s i)) (h9 : A.2.1.2.2.1 9 s = 0) (h10 : A.2.1.2.2.1 10 s = -1) (h8 : A.2.1.2.1 8 s = M.1.2.1 22 s) : Cg A M (a_bw A s) (m_go M s) s := by
  have h := hC s (Nat.le_refl s)
  have h3 := W.nc s hs
  have ebl := cp_bl W h (fun r hr => hC r (Nat.le_of_lt hr))
  unfold a_bw m_go
  rw [← ebl]
  by_cases gb : a_bl A s = true
  · rw [if_pos gb, if_pos gb]
    refine ⟨⟨h.j4, h.j5, h.nr, h.nc, h.fo, ?_, ?_, h.rd, h.ok, fun k hk => ⟨(h.en k hk).f, (h.en k hk).y, (h.en k hk).c, (h.en k hk).w, (h.en k hk).h⟩, h.inj⟩, ⟨?_, N.t, N.u, N.l⟩, ?_, ?_, ?_⟩
    · simp [up2]
    · simp [up2, h10]
    · intro i hi
      by_cases j : i = 3
      · subst j; simp [up1, N.c 3 (by omega)]
      · simp [up1, j, N.c i hi]
    · simp [up1]
    · simp [up2, h10]
    · left; simp [up2]
  rw [if_neg gb, if_neg gb]
  have hbl : ∀ i, i < A.2.1.1.2 3 s → a_bp A s i = false := fun i hi => z_any_false _ _ (by simpa [a_bl] using gb) i (by omega) (by omega)
  have hva : ∀ i, i < A.2.1.1.2 3 s → a_va A s i = m_va M s i := by
    intro i hi
    refine cp_va W F h hi fun q => ?_
    rcases h.code W.nf hi with ⟨a1, a2, a3, a4⟩ | ⟨a1, a2, a3, a4, a5⟩
    · exact absurd a4 q
    · refine ⟨hC _ (Nat.le_of_lt a2), ?_⟩
      have b := hbl i hi
      simp only [a_bp, a4, decide_eq_false_iff_not, not_and] at b
      have b := b q
      rcases hrd i hi q with c | c
      · exact absurd (Or.inl c) b
      · exact c
  have W1 : WA (a_rn A s) := W.of rfl rfl rfl rfl rfl
  have h1 := h.rn h3
  have P : Sp (a_rn A s) M s := by
    refine ⟨fun i hi => ?_, fun i hi => ?_⟩
    · have hi : i < A.2.1.1.2 3 s := hi
      rw [← cp_th W F h hi]; simp [a_rn, hi]
    · have hi : i < A.2.1.1.2 3 s := hi
      rw [← hva i hi]; simp [a_rn, hi]
  have eps : a_ps (a_rn A s) s (A.2.2.1.1 s 3) = m_mt M s := cp_ps h1 P
  have hne : ∀ k, k < 3 → A.2.2.1.1 s k ≠ A.2.2.1.1 s 3 := fun k hk q => by have := h.inj k 3 (by omega) (by omega) q; omega
  unfold a_up
  rw [eps]
  have redo : (A.2.1.2.1 6 s = true ∨ m_mt M s = none) → Cg A M { a_cm (a_u3 (a_rn A s) s (m_mt M s)) s (a_bo A s) with fst.snd.snd.fst := up1 (a_cm (a_u3 (a_rn A s) s (m_mt M s)) s (a_bo A s)).1.2.2.1 0 ((a_cm (a_u3 (a_rn A s) s (m_mt M s)) s (a_bo A s)).1.2.2.1 0 + bI (A.2.1.2.1 8 s && decide ((a_cm (a_u3 (a_rn A s) s (m_mt M s)) s (a_bo A s)).2.1.2.2.1 10 s = -1))) } (true, m_cm (m_rM M s) s (m_ho M s) (m_of M s 0) (m_of M s 1) true) s := by
    intro hm
    have hc : a_ca (a_rn A s) s = m_ca M s := cp_ca W1 h1 P hm
    obtain ⟨r1, r2, r3, r4, r5⟩ := cp_redo W1 hs h1 P hc
    obtain ⟨t1, t2, t3⟩ := a_u3_o (a_rn A s) s (m_mt M s)
    obtain ⟨x1, x2, x3, x4⟩ := a_u3_E (a_rn A s) s (m_mt M s)
    have hcl := a_ca_lt (a_rn A s) s
    have sm := (m_wm_same (m_r1 M s) s)
    have z := cp_cm (A := A) (A2 := a_u3 (a_rn A s) s (m_mt M s)) (M := M) (M2 := m_rM M s) true h r1 r5 r2 (fun q => ⟨fun _ => rfl, fun _ => r3.2 q⟩) (by
      intro hp
      have hx := hne 0 (by omega)
      rw [x1, x2]
      refine ⟨?_, ?_, ?_⟩
      · show up2 A.2.2.1.2 s (A.2.2.1.1 s 3) _ s (A.2.2.1.1 s 0) = _
        simp only [up2, hx, and_false, if_false]
      · show (a_fo (a_rn A s) s (A.2.2.1.1 s 3)).2.2.2.1 3 s (A.2.2.1.1 s 0) = _
        simp [a_fo, up3, hx, a_rn]
      · show (a_fo (a_rn A s) s (A.2.2.1.1 s 3)).2.2.2.1 4 s (A.2.2.1.1 s 0) = _
        simp [a_fo, up3, hx, a_rn]) (mS.rM M s).J
    have u1 : (m_rM M s).1.2.2.2 = M.1.2.2.2 := sm.2.2.2.2.2.1
    have u2 : (m_rM M s).2.1.1 = (m_r1 M s).2.1.1 := sm.2.2.2.2.2.2.1
    have u3 : (m_rM M s).1.1.1 = (m_r1 M s).1.1.1 := sm.2.2.2.2.2.2.2.1
    obtain ⟨X, hX⟩ : ∃ X, a_cm (a_u3 (a_rn A s) s (m_mt M s)) s (a_bo A s) = X := ⟨_, rfl⟩
    obtain ⟨Y, hY⟩ : ∃ Y, m_cm (m_rM M s) s (m_ho M s) (m_of M s 0) (m_of M s 1) true = Y := ⟨_, rfl⟩
    rw [hX, hY] at z
    rw [hX, hY]
    have v : decide (X.2.1.2.2.1 10 s = -1) = false := by rw [z.si]; exact decide_eq_false r4
    have c0 : up1 X.1.2.2.1 0 (X.1.2.2.1 0 + bI (A.2.1.2.1 8 s && decide (X.2.1.2.2.1 10 s = -1))) = X.1.2.2.1 := by
      funext i
      rw [v, Bool.and_false]
      by_cases j : i = 0
      · subst j; simp [up1, bI]
      · simp [up1, j]
    rw [c0]
    refine ⟨z.cs r1, ⟨?_, ?_, ?_, ?_⟩, ?_, ?_, ?_⟩
    · intro i hi
      refine z.c i ?_
      rw [u1, t1]; exact N.c i hi
    · intro i hi
      show Y.2.1.1 i = X.1.2.2.2.1 i
      rw [z.t, z.ta, u2, t3, hc]
      show up1 M.2.1.1 (m_ca M s) (M.2.1.1 (m_ca M s) + 1) i = up1 A.1.2.2.2.1 (m_ca M s) (A.1.2.2.2.1 (m_ca M s) + 1) i
      rw [hc] at hcl
      by_cases j : i = m_ca M s
      · simp only [up1, j, if_true]; rw [N.t _ hcl]
      · simp only [up1, j, if_false]; exact N.t i hi
    · refine z.u ?_
      rw [u3, t2]
      show up1 M.1.1.1 24 (M.1.1.1 24 + 1) 23 = A.1.2.2.2.2
      simp only [up1]; exact N.u
    · show Y.1.1.1 24 = X.1.2.2.2.1 0 + X.1.2.2.2.1 1 + X.1.2.2.2.1 2 + X.1.2.2.2.1 3
      rw [z.l, z.ta, u3, t3]
      show up1 M.1.1.1 24 (M.1.1.1 24 + 1) 24 = _
      have e := cp_sum A.1.2.2.2.1 _ hcl
      rw [show (a_rn A s).1.2.2.2.1 = A.1.2.2.2.1 from rfl, e, ← N.l]
      simp only [up1, if_true]
    · show X.1.2.2.1 4 = A.1.2.2.1 4
      have h4 := (aS.cm (a_u3 (a_rn A s) s (m_mt M s)) s (a_bo A s))
      have e4 : (a_cm (a_u3 (a_rn A s) s (m_mt M s)) s (a_bo A s)).1.2.2.1 4 = (a_u3 (a_rn A s) s (m_mt M s)).1.2.2.1 4 := by
        generalize a_u3 (a_rn A s) s (m_mt M s) = Q
        unfold a_cm
        split
        · rfl
        · split
          · split
            · simp [up1]
            · split
              · simp [up1]
              · rfl
          · rfl
      rw [← hX, e4, t1]; rfl
    · show true = decide (X.2.1.2.2.1 10 s ≠ -1)
      have v := of_decide_eq_false v
      exact (decide_eq_true v).symm
    · right; show 0 < X.2.1.1.2 5 s; rw [z.sn]; exact r5
  by_cases gf : A.2.1.2.1 6 s = true
  · have e1 : m_sl M s = none := by unfold m_sl; rw [h.fo, if_pos gf]
    have e2 : a_ur (a_rn A s) s (m_mt M s) = a_u3 (a_rn A s) s (m_mt M s) := by
      cases hm : m_mt M s with
      | none => rfl
      | some k => simp only [a_ur]; exact if_pos gf
    rw [e1, e2]
    exact redo (Or.inl gf)
  · have e1 : m_sl M s = m_mt M s := by unfold m_sl; rw [h.fo, if_neg gf]
    rw [e1]
    cases hm : m_mt M s with
    | none =>
      have := redo (Or.inr hm)
      rw [hm] at this
      exact this
    | some k =>
      have hk := m_mt_lt hm
      rw [h.nc] at hk
      have e2 : a_ur (a_rn A s) s (some k) = a_ru (a_rn A s) s k := by simp only [a_ur]; exact if_neg gf
      rw [e2]
      obtain ⟨r1, r2, r3, r4⟩ := cp_reuse W1 hs h1 hk h10
      have sm := m_br_same M s k
      have bc : (m_bM M s k).1.2.2.2 = up1 M.1.2.2.2 0 (M.1.2.2.2 0 + bI (M.1.2.1 22 s)) := rfl
      have ac : (a_ru (a_rn A s) s k).1.2.2.1 = A.1.2.2.1 := rfl
      have z : Cc (a_ru (a_rn A s) s k) (a_cm (a_ru (a_rn A s) s k) s (a_bo A s)) (m_bM M s k) (if k = 0 then m_bM M s k else m_cm (m_bM M s k) s (m_ho M s) (m_of M s 0) (m_of M s 1) false) s := by
        by_cases k0 : k = 0
        · rw [if_pos k0, a_cm_no (fun q => (r2.1 q).1 k0)]; exact Cc.refl _ _ _
        · rw [if_neg k0]
          refine cp_cm false h r1 (show 0 < A.2.1.1.2 5 s by omega) ⟨fun q => (r2.1 q).2, fun q => r2.2 ⟨k0, q⟩⟩ (fun q => ⟨fun q => absurd q r3, fun q => absurd q (by decide)⟩) (fun _ => ⟨rfl, rfl, rfl⟩) sm.2.2.1
      obtain ⟨X, hX⟩ : ∃ X, a_cm (a_ru (a_rn A s) s k) s (a_bo A s) = X := ⟨_, rfl⟩
      have e4 : (a_cm (a_ru (a_rn A s) s k) s (a_bo A s)).1.2.2.1 4 = (a_ru (a_rn A s) s k).1.2.2.1 4 := by
        generalize a_ru (a_rn A s) s k = Q
        unfold a_cm
        split
        · rfl
        · split
          · split
            · simp [up1]
            · split
              · simp [up1]
              · rfl
          · rfl
      rw [show m_gr M s (m_ho M s) (m_of M s 0) (m_of M s 1) (some k) = (if k = 0 then m_bM M s k else m_cm (m_bM M s k) s (m_ho M s) (m_of M s 0) (m_of M s 1) false) from rfl]
      obtain ⟨Y, hY⟩ : ∃ Y, (if k = 0 then m_bM M s k else m_cm (m_bM M s k) s (m_ho M s) (m_of M s 0) (m_of M s 1) false) = Y := ⟨_, rfl⟩
      rw [hX, hY] at z
      rw [hX] at e4
      rw [hX, hY]
      have v : X.2.1.2.2.1 10 s = -1 := by rw [z.si]; exact r4
      refine ⟨?_, ⟨?_, ?_, ?_, ?_⟩, ?_, ?_, ?_⟩
      · exact (z.cs r1).cc _ Y.1.2.2.2 X.1.2.2.2.2 Y.1.1.1 X.1.2.2.2.1 Y.2.1.1
      · intro i hi
        show Y.1.2.2.2 i = up1 X.1.2.2.1 0 _ i
        by_cases j : i = 0
        · subst j
          simp only [up1, if_true]
          rw [z.m0, z.c0, bc, ac, v, h8, show decide ((-1 : Int32) = -1) = true from rfl, Bool.and_true]
          simp only [up1, if_true]
          rw [N.c 0 (by omega)]
        · simp only [up1, j, if_false]
          refine z.c i ?_
          rw [bc, ac]
          simp only [up1, j, if_false]
          exact N.c i hi
      · intro i hi
        show Y.2.1.1 i = X.1.2.2.2.1 i
        rw [z.t, z.ta]
        show (m_br M s k).2.1.1 i = A.1.2.2.2.1 i
        rw [sm.2.2.2.2.2.2.1]; exact N.t i hi
      · refine z.u ?_
        show (m_br M s k).1.1.1 23 = A.1.2.2.2.2
        rw [sm.2.2.2.2.2.2.2.1]; exact N.u
      · show Y.1.1.1 24 = X.1.2.2.2.1 0 + X.1.2.2.2.1 1 + X.1.2.2.2.1 2 + X.1.2.2.2.1 3
        rw [z.l, z.ta]
        show (m_br M s k).1.1.1 24 = _
        rw [sm.2.2.2.2.2.2.2.1]; exact N.l
      · show up1 X.1.2.2.1 0 (X.1.2.2.1 0 + bI (A.2.1.2.1 8 s && decide (X.2.1.2.2.1 10 s = -1))) 4 = A.1.2.2.1 4
        simp only [up1]
        exact e4
      · show false = decide (X.2.1.2.2.1 10 s ≠ -1)
        simp [v]
      · right; show 0 < X.2.1.1.2 5 s; rw [z.sn]; show 0 < A.2.1.1.2 5 s; omega
