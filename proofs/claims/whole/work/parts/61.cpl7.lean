def Cp (A : vA) (M : vM) : Prop := (WA A) ∧ (WM M) ∧ (Cf A M) ∧ (∀ r, r < A.1.1.1.2 → Cs A M r) ∧ (Cn A M) ∧ (M.1.2.2.2 4 = A.1.2.2.1 4)
theorem Cp.W {A : vA} {M : vM} (z_h : Cp A M) : WA A := z_h.1
theorem Cp.V {A : vA} {M : vM} (z_h : Cp A M) : WM M := z_h.2.1
theorem Cp.F {A : vA} {M : vM} (z_h : Cp A M) : Cf A M := z_h.2.2.1
theorem Cp.S {A : vA} {M : vM} (z_h : Cp A M) : ∀ r, r < A.1.1.1.2 → Cs A M r := z_h.2.2.2.1
theorem Cp.N {A : vA} {M : vM} (z_h : Cp A M) : Cn A M := z_h.2.2.2.2.1
theorem Cp.c4 {A : vA} {M : vM} (z_h : Cp A M) : M.1.2.2.2 4 = A.1.2.2.1 4 := z_h.2.2.2.2.2
theorem WM.bd : ∀ (d n : Nat) (a : Int32) (M : vM), WM M → WM (m_bd n d a M).2
  | 0, _, _, _, h => h
  | d + 1, n, a, M, h => by
    simp only [m_bd]
    split
    · exact WM.bd d _ _ _ (h.go n)
    · exact WM.bd d _ _ _ h
theorem cp_build {A : vA} {M : vM} (C : Cp A M) (x : Int32) : (a_bd 0 A.1.1.1.2 0 (a_tk x A.1.1.1.2 (a_z0 A))).1 = (m_bd 0 (M.1.1.2.1 2) 0 (m_b2 x M)).1 ∧ Cp (a_bd 0 A.1.1.1.2 0 (a_tk x A.1.1.1.2 (a_z0 A))).2 (m_bd 0 (M.1.1.2.1 2) 0 (m_b2 x M)).2 := by
  have hk : M.1.1.2.1 2 = A.1.1.1.2 := C.F.k2
  have S0 : ∀ r, r < A.1.1.1.2 → Cs (a_z0 A) (m_z0 M) r := by
    intro r hr
    have h := C.S r hr
    exact ⟨h.j4, h.j5, h.nr, h.nc, h.fo, rfl, rfl, h.rd, h.ok, fun k hk => ⟨(h.en k hk).f, (h.en k hk).y, (h.en k hk).c, (h.en k hk).w, (h.en k hk).h⟩, h.inj⟩
  have W0 : WA (a_z0 A) := C.W.of rfl rfl rfl rfl rfl
  have R0 : Cr (a_z0 A) (m_z0 M) := Cr.of W0.nf S0
  have T := cp_tk x A.1.1.1.2 (a_z0 A) (m_z0 M) R0 hk (Nat.le_refl _) (fun t h1 h2 => by have : t < A.1.1.1.2 := h2; omega) (fun r hr => by
    show (a_z0 A).2.1.2.1 7 r = z_any _ A.1.1.1.2 (A.1.1.1.2 - A.1.1.1.2)
    rw [Nat.sub_self]; rfl) (fun t u i h1 h2 h3 => by have : t < A.1.1.1.2 := h3; omega)
  obtain ⟨Z1, e1⟩ := a_tk_same x A.1.1.1.2 (a_z0 A)
  have z1 : ∀ j r, j ≠ 7 → Z1 j r = (a_z0 A).2.1.2.1 j r := by
    intro j r hj
    have := a_tk_Z x A.1.1.1.2 (a_z0 A) j r hj
    rw [e1] at this; exact this
  obtain ⟨Z2, e2⟩ := m_tk_re x A.1.1.1.2 (m_z0 M)
  have z2 : ∀ j, j ≠ 21 → Z2 j = M.1.2.1 j := by
    intro j hj
    have := m_tk_Z x A.1.1.1.2 (m_z0 M) j hj
    rw [e2] at this; exact this
  rw [e1, e2] at T
  unfold m_b2
  rw [hk, e1, e2]
  have ho : ∀ t i, t < 0 + A.1.1.1.2 → i < M.2.1.2.1 9 t → M.2.1.2.2 11 t i ≠ 2 → M.2.1.2.2 10 t i < t := by
    intro t i ht hi h11
    have := R0 t (by show t < A.1.1.1.2; omega)
    exact ((this.2 i (by rw [← this.1]; exact hi)).2 h11).2
  have K := m_mk_ok A.1.1.1.2 0 { m_z0 M with fst.snd.fst := Z2 } ho (fun r hr => by omega) rfl
  obtain ⟨Z3, C3, e3, z3, c3⟩ := m_mk_re A.1.1.1.2 0 { m_z0 M with fst.snd.fst := Z2 }
  rw [e3] at K
  rw [e3]
  rw [Nat.zero_add] at K
  have z6 : Z3 6 = M.1.2.1 6 := by rw [z3 6 (by decide), show ({ m_z0 M with fst.snd.fst := Z2 } : vM).1.2.1 6 = Z2 6 from rfl, z2 6 (by decide)]
  have z7 : Z3 7 = M.1.2.1 7 := by rw [z3 7 (by decide), show ({ m_z0 M with fst.snd.fst := Z2 } : vM).1.2.1 7 = Z2 7 from rfl, z2 7 (by decide)]
  have z21 : Z3 21 = Z2 21 := z3 21 (by decide)
  have I0 : Iv 0 { a_z0 A with snd.fst.snd.fst := Z1 } { m_z0 M with fst.snd.fst := Z3, fst.snd.snd.snd := C3 } := by
    refine ⟨W0.of rfl rfl rfl rfl rfl, ⟨C.F.k1, C.F.k2, ?_, C.F.fj, C.F.fi, C.F.fc, C.F.f0, ?_⟩, ?_, ⟨?_, C.N.t, ?_, ?_⟩, ?_, ?_, ?_, ?_, ?_, ?_, ?_, rfl, K.2⟩
    · intro f hf
      show Z3 6 f = _
      rw [z6]; exact C.F.fz f hf
    · intro s h1 h2
      have h := C.F.hi s h1 h2
      refine ⟨h.1, h.2.1, ?_, rfl⟩
      show Z3 7 s = false
      rw [z7]; exact h.2.2.1
    · intro r hr
      have h := S0 r hr
      refine ⟨h.j4, h.j5, h.nr, h.nc, ?_, h.st, h.ca, h.rd, h.ok, fun k hk => ⟨(h.en k hk).f, (h.en k hk).y, (h.en k hk).c, (h.en k hk).w, (h.en k hk).h⟩, h.inj⟩
      show Z3 7 r = Z1 6 r
      rw [z7, z1 6 r (by decide)]; exact h.fo
    · intro i hi
      show C3 i = 0
      rw [c3 i (by omega)]; rfl
    · show up1 M.1.1.1 0 0 23 = A.1.2.2.2.2
      simp only [up1]; exact C.N.u
    · show up1 M.1.1.1 0 0 24 = _
      simp only [up1]; exact C.N.l
    · intro r hr
      show Z1 7 r = Z3 21 r
      rw [z21]; exact T.1 r hr
    · intro t u i h1 h2
      show Z3 21 t = true → _ → _ → _ → Z3 21 u = true
      rw [z21]; exact T.2 t u i h1 h2
    · intro r h1; omega
    · intro r _ hr
      show Z1 8 r = false
      rw [z1 8 r (by decide)]; rfl
    · intro r _ hr
      exact K.1 r hr
    · intro r _ _; exact ⟨rfl, rfl⟩
    · intro r h1; omega
  obtain ⟨a1, a2, a3⟩ := Iv.bd A.1.1.1.2 0 0 _ _ I0 (Nat.zero_add _)
  refine ⟨a1, ⟨a2.W, WM.bd _ _ _ _ (C.V.of rfl rfl rfl), a2.F, a2.S, a2.N, ?_⟩⟩
  rw [a2.cm, a2.ca, a3]
