theorem Cs.fil {A : vA} {M : vM} {r : Nat} (h : Cs A M r) (FZ : Nat → Bool) (FJ : Nat → Int64) (FI : Nat → Int32) (J : Nat → Nat → Int64) (Z : Nat → Nat → Bool) (I : Nat → Nat → Int32) (O : Nat → Int32) (j4 : J 4 = M.1.1.2.2 4) (j5 : J 5 = M.1.1.2.2 5) (z7 : Z 7 = M.1.2.1 7) (i17 : I 17 = M.1.2.2.1 17) (i18 : I 18 = M.1.2.2.1 18) : Cs { A with fst.fst.snd.snd.snd := FZ, fst.snd.fst.fst := FJ, fst.snd.fst.snd := FI } { M with fst.fst.snd.snd := J, fst.snd.fst := Z, fst.snd.snd.fst := I, fst.fst.fst := O } r := by
  refine ⟨?_, ?_, h.nr, h.nc, ?_, ?_, ?_, h.rd, h.ok, fun k hk => ⟨(h.en k hk).f, (h.en k hk).y, (h.en k hk).c, (h.en k hk).w, (h.en k hk).h⟩, h.inj⟩
  · show J 4 r = _; rw [j4]; exact h.j4
  · show J 5 r = _; rw [j5]; exact h.j5
  · show Z 7 r = _; rw [z7]; exact h.fo
  · show I 17 r = _; rw [i17]; exact h.st
  · show A.2.1.2.2.1 10 r = if A.2.1.2.2.1 9 r = 2 ∨ A.2.1.2.2.1 9 r = 3 then I 18 r else -1; rw [i18]; exact h.ca
section
variable {b : Nat} {A : vA} {M : vM} {o : Int64} {L : gL} {V : gV}
variable {Ln : Nat} {xs : Nat → Int32} {v4 x1 x2 x3 x4 : Int32} {K : gL → gV → Option Unit}
theorem a_sh4 (R : RZ b A M o L V) {n k : Nat} (a : Int32) (hk : k < 4) : D_A_share_4 L (n + 1) b a (nI k) V = D_A_share_4 L n b (a + A.1.2.2.2.1 k) (nI (k + 1)) V := by
  have c : ((4 : Int32) ≤ nI k) = (4 ≤ k) := nI_lep (a := 4) (by omega) (by omega)
  rw [D_A_share_4]
  simp (disch := omega) only [c, show ¬ 4 ≤ k by omega, if_false, R.r_aP5, q_bd, R.r_at, nI_1]
theorem a_share (R : RZ b A M o L V) : D_A_share b L V = some (if A.1.2.2.2.1 0 + A.1.2.2.2.1 1 + A.1.2.2.2.1 2 + A.1.2.2.2.1 3 = 0 then .inr 2 else .inl ((1000 * A.1.2.2.2.2) / (A.1.2.2.2.1 0 + A.1.2.2.2.1 1 + A.1.2.2.2.1 2 + A.1.2.2.2.1 3)), V) := by
  have e : D_A_share b L V = D_A_share_4 L (995 + 1 + 1 + 1 + 1 + 1) b 0 (nI 0) V := rfl
  rw [e, a_sh4 R _ (by omega), a_sh4 R _ (by omega), a_sh4 R _ (by omega), a_sh4 R _ (by omega), D_A_share_4]
  have z : (0 : Int32) + A.1.2.2.2.1 0 + A.1.2.2.2.1 1 + A.1.2.2.2.1 2 + A.1.2.2.2.1 3 = A.1.2.2.2.1 0 + A.1.2.2.2.1 1 + A.1.2.2.2.1 2 + A.1.2.2.2.1 3 := by simp
  rw [z, if_pos (show (4 : Int32) ≤ nI 4 from by decide)]
  by_cases g : A.1.2.2.2.1 0 + A.1.2.2.2.1 1 + A.1.2.2.2.1 2 + A.1.2.2.2.1 3 = 0
  · rw [if_pos g, if_pos g]
  · rw [if_neg g, if_neg g]
    simp only [R.r_aI, q_bd, g, if_false]
theorem e_share (R : RZ b A M o L V) : ∃ V1, D_M_share (b + 5) L V = some (if M.1.1.1 24 = 0 then 0 else (M.1.1.1 23 * 1000) / M.1.1.1 24, V1) ∧ RZ b A { M with fst.fst.fst := up1 M.1.1.1 0 (if M.1.1.1 24 = 0 then 1 else 0) } o L V1 := by
  obtain ⟨V1, e1, R1⟩ := R.w_mo (j := 0) (Or.inl rfl) (if M.1.1.1 24 = 0 then 1 else 0)
  have r24 : g_rI L V1 4 (b + 5) 24 = some (M.1.1.1 24) := by
    rw [R1.r_mo (Or.inr (Or.inr rfl))]; simp [up1]
  have r23 : g_rI L V1 4 (b + 5) 23 = some (M.1.1.1 23) := by
    rw [R1.r_mo (Or.inr (Or.inl rfl))]; simp [up1]
  refine ⟨V1, ?_, R1⟩
  by_cases g : M.1.1.1 24 = 0
  · rw [if_pos g] at e1
    simp (disch := omega) only [D_M_share, R.r_mo, q_bd, g, if_true, D_M_share_13, e1, r24]
  · rw [if_neg g] at e1
    simp (disch := omega) only [D_M_share, R.r_mo, q_bd, g, if_false, D_M_share_13, e1, r24, r23]
theorem l_16 (R : RZ b A M o L V) (C : Cp A M) (hK : zGo b L K) : D_L16 Ln xs b (b + 5) (b + 26) v4 K L V = some () := by
  have hl := C.N.l
  have hu := C.N.u
  have ea := a_share R
  by_cases g : A.1.2.2.2.1 0 + A.1.2.2.2.1 1 + A.1.2.2.2.1 2 + A.1.2.2.2.1 3 = 0
  · rw [if_pos g] at ea
    obtain ⟨V1, em, R1⟩ := e_share R.oL
    rw [hl, if_pos g] at em
    rw [hl, if_pos g] at R1
    have ew : D_W_share b (b + 26) L V = some (1, g_oL L, V) := by simp [D_W_share, R.z_3, ea]
    simp only [D_L16, q_bd, ew, q_b3, R.oL.z_4, em, q_b2, e_thrown R1, o_get, if_true, i10, if_false]
    exact hK _ _ _ _ _ rfl R1 (C.o0 1)
  · rw [if_neg g] at ea
    obtain ⟨V0, e0, R0⟩ := R.w_o0 (((1000 * A.1.2.2.2.2) / (A.1.2.2.2.1 0 + A.1.2.2.2.1 1 + A.1.2.2.2.1 2 + A.1.2.2.2.1 3)).toInt64)
    obtain ⟨V1, em, R1⟩ := e_share R0
    rw [hl, if_neg g, hu, Int32.mul_comm A.1.2.2.2.2 1000] at em
    rw [hl, if_neg g] at R1
    have ew : D_W_share b (b + 26) L V = some (0, L, V0) := by
      simp only [D_W_share, R.z_3, q_bd, ea, e0]
    simp only [D_L16, q_bd, ew, q_b3, R0.z_4, em, q_b2, e_thrown R1, o_get, if_true, R1.r_o0, lg_cmp_self]
    exact hK _ _ _ _ _ rfl R1 (C.o0 0)
theorem c_1 (R : RZ b A M o L V) (C : Cp A M) (x1 : Int32) (c : Bool) (v : Int64) : ∃ y V1 V2 A2 M2, D_A_set b x1 (bI c) v L V = some (y, V1) ∧ D_M_set (b + 5) x1 (bI c) v L V1 = some (y, V2) ∧ RZ b A2 M2 o L V2 ∧ Cp A2 M2 := by
  have W := C.W
  have h16 := W.nf
  have k1 := C.F.k1
  rcases z_dI x1 A.1.1.1.1 with ⟨f, hf, _, rfl⟩ | hx
  · obtain ⟨Va, ea, Ra⟩ := R.w_fZ hf c
    obtain ⟨Vb, eb, Rb⟩ := Ra.w_fJ (f := f) hf (if c = false then 0 else v)
    obtain ⟨Vc, ec, Rc⟩ := Rb.w_mo (j := 0) (Or.inl rfl) 0
    obtain ⟨Vd, ed, Rd⟩ := Rc.w_mZ (q := 6) (s := f) ⟨Or.inl rfl, by omega⟩ c
    obtain ⟨Ve, ee, Re⟩ := Rd.w_mJ (q := 3) (s := f) ⟨Or.inl rfl, by omega⟩ (if c = false then 0 else v)
    have es := e_srcIn Rc (s := f) (by show M.1.1.2.1 1 ≤ 16; omega) (by show f < M.1.1.2.1 1; omega)
    refine ⟨1, Vb, Ve, _, _, ?_, ?_, Re, ?_⟩
    · simp only [D_A_set, R.z_3, q_bd, a_srcIn R W hf, q_b2, q_on1, q_bz, ea]
      cases c
      · simp only [if_true] at eb; simp only [bI_f, if_true, eb, q_bd]
      · simp only [Bool.true_eq_false, if_false] at eb; simp only [bI_t, i10, if_false, eb, q_bd]
    · simp (disch := omega) only [D_M_set, ec, q_bd, Rb.z_4, es, q_b2, i10, if_false, Rc.r_mP, q_bz, ed, Rd.r_mP]
      cases c
      · simp only [if_true] at ee; simp only [bI_f, if_true, ee, q_bd]
      · simp only [Bool.true_eq_false, if_false] at ee; simp only [bI_t, i10, if_false, ee, q_bd]
    · refine ⟨W.of rfl rfl rfl rfl rfl, C.V.of rfl rfl rfl, ⟨C.F.k1, C.F.k2, ?_, ?_, C.F.fi, ?_, C.F.f0, ?_⟩, ?_, ?_, C.c4⟩
      · intro g hg
        show up2 M.1.2.1 6 f c 6 g = up1 A.1.1.2.2.2 f c g
        by_cases q : g = f
        · simp [up1, up2, q]
        · simp only [up1, up2, q, and_false, if_false]; exact C.F.fz g hg
      · intro g hg
        show up2 M.1.1.2.2 3 f _ 3 g = up1 A.1.2.1.1 f _ g
        by_cases q : g = f
        · simp [up1, up2, q]
        · simp only [up1, up2, q, and_false, if_false]; exact C.F.fj g hg
      · intro g hg
        show up1 A.1.1.2.2.2 f c g = false → up1 A.1.2.1.1 f (if c = false then 0 else v) g = 0
        by_cases q : g = f
        · simp only [up1, q, if_true]
          intro h; simp [h]
        · simp only [up1, q, if_false]; exact C.F.fc g hg
      · intro s h1 h2
        have h := C.F.hi s h1 h2
        refine ⟨h.1, h.2.1, ?_, h.2.2.2⟩
        show up2 M.1.2.1 6 f c 7 s = false
        simp [up2, h.2.2.1]
      · intro r hr
        exact (C.S r hr).fil _ _ A.1.2.1.2 _ _ M.1.2.2.1 _ (by funext q; simp [up2]) (by funext q; simp [up2]) (by funext q; simp [up2]) rfl rfl
      · exact ⟨(C.o0 0).N.c, (C.o0 0).N.t, (C.o0 0).N.u, (C.o0 0).N.l⟩
  · obtain ⟨V1, e1, R1⟩ := R.w_mo (j := 0) (Or.inl rfl) 0
    refine ⟨0, V, V1, _, _, ?_, ?_, R1, C.o0 0⟩
    · simp only [D_A_set, R.z_3, q_bd, a_srcOut R W hx, q_b2, q_on0]
    · simp only [D_M_set, e1, q_bd, R.z_4, e_srcOut R1 (x := x1) (by show M.1.1.2.1 1 ≤ 16; omega) (by show zOut x1 (M.1.1.2.1 1); rw [k1]; exact hx), q_b2, i00, if_true]
theorem l_1 (R : RZ b A M o L V) (C : Cp A M) (g1 : g_sx Ln xs (v4 + 1) = some x1) (g2 : g_sx Ln xs (v4 + 2) = some x2) (g3 : g_sx Ln xs (v4 + 3) = some x3) (g4 : g_sx Ln xs (v4 + 4) = some x4) (hK : zGo b L K) : D_L1 Ln xs b (b + 5) (b + 26) v4 K L V = some () := by
  by_cases q : x2 = 0
  · obtain ⟨y, V1, V2, A2, M2, ea, em, R2, C2⟩ := c_1 R C x1 false ((x3.toInt64 <<< ((32 : Int32).toInt64 &&& 63)) ||| (x4.toInt64 &&& (4294967295 : Int64)))
    rw [bI_f] at ea em
    simp only [D_L1, g1, g2, g3, g4, q_bd, q, if_true, R.z_3, R.z_4, ea, q_b2, em]
    exact hK _ _ _ _ _ rfl R2 C2
  · obtain ⟨y, V1, V2, A2, M2, ea, em, R2, C2⟩ := c_1 R C x1 true ((x3.toInt64 <<< ((32 : Int32).toInt64 &&& 63)) ||| (x4.toInt64 &&& (4294967295 : Int64)))
    rw [bI_t] at ea em
    simp only [D_L1, g1, g2, g3, g4, q_bd, q, if_false, R.z_3, R.z_4, ea, q_b2, em, if_true]
    exact hK _ _ _ _ _ rfl R2 C2
theorem l_2 (R : RZ b A M o L V) (C : Cp A M) (g1 : g_sx Ln xs (v4 + 1) = some x1) (hK : zGo b L K) : D_L2 Ln xs b (b + 5) (b + 26) v4 K L V = some () := by
  have W := C.W
  have h16 := W.nf
  have k1 := C.F.k1
  rcases z_dI x1 A.1.1.1.1 with ⟨f, hf, _, rfl⟩ | hx
  · have ef := C.F.fi f hf
    obtain ⟨Va, ea, Ra⟩ := R.w_fI hf (A.1.2.1.2 f + 1)
    obtain ⟨Vb, eb, Rb⟩ := Ra.w_mo (j := 0) (Or.inl rfl) 0
    obtain ⟨Vc, ec, Rc⟩ := Rb.w_mI (q := 8) (s := f) ⟨Or.inl rfl, by omega⟩ (M.1.2.2.1 8 f + 1)
    have es := e_srcIn Rb (s := f) (by show M.1.1.2.1 1 ≤ 16; omega) (by show f < M.1.1.2.1 1; omega)
    have e1 : D_A_touch b (nI f) L V = some (A.1.2.1.2 f + 1, Va) := by
      simp (disch := omega) only [D_A_touch, R.z_3, q_bd, a_srcIn R W hf, q_b2, q_on1, R.r_fI, ea]
      have := Ra.r_fI (f := f) hf
      rw [show g_rI L Va 1 (A.1.1.2.1 f) 2 = some (up1 A.1.2.1.2 f (A.1.2.1.2 f + 1) f) from this, q_bd]
      simp [up1]
    have e2 : D_M_touch (b + 5) (nI f) L Va = some (A.1.2.1.2 f + 1, Vc) := by
      simp (disch := omega) only [D_M_touch, eb, q_bd, Ra.z_4, es, q_b2, i10, if_false, Rb.r_mP, Rb.r_mI, ec, Rc.r_mP, Rc.r_mI]
      simp [up2, ef]
    simp only [D_L2, g1, q_bd, R.z_3, e1, q_b2, R.z_4, e2, if_true]
    refine hK _ _ _ _ _ rfl Rc ⟨W.of rfl rfl rfl rfl rfl, C.V.of rfl rfl rfl, ⟨C.F.k1, C.F.k2, C.F.fz, C.F.fj, ?_, C.F.fc, ?_, ?_⟩, ?_, ⟨(C.o0 0).N.c, (C.o0 0).N.t, (C.o0 0).N.u, (C.o0 0).N.l⟩, C.c4⟩
    · intro g hg
      show up2 M.1.2.2.1 8 f (M.1.2.2.1 8 f + 1) 8 g = up1 A.1.2.1.2 f (A.1.2.1.2 f + 1) g
      by_cases q : g = f
      · simp [up1, up2, q, ef]
      · simp only [up1, up2, q, and_false, if_false]; exact C.F.fi g hg
    · intro g h1 h2
      show up2 M.1.2.2.1 8 f (M.1.2.2.1 8 f + 1) 8 g = 0
      have h1 : A.1.1.1.1 ≤ g := h1
      simp only [up2, show ¬ g = f by omega, and_false, if_false]; exact C.F.f0 g h1 h2
    · intro s h1 h2
      have h := C.F.hi s h1 h2
      refine ⟨h.1, h.2.1, h.2.2.1, ?_⟩
      show up2 M.1.2.2.1 8 f (M.1.2.2.1 8 f + 1) 17 s = 0
      simp [up2, h.2.2.2]
    · intro r hr
      exact (C.S r hr).fil A.1.1.2.2.2 A.1.2.1.1 _ M.1.1.2.2 M.1.2.1 _ _ rfl rfl rfl (by funext q; simp [up2]) (by funext q; simp [up2])
  · obtain ⟨V1, e1, R1⟩ := R.w_mo (j := 0) (Or.inl rfl) 0
    have e2 : D_A_touch b x1 L V = some (-1, V) := by
      simp only [D_A_touch, R.z_3, q_bd, a_srcOut R W hx, q_b2, q_on0]
    have e3 : D_M_touch (b + 5) x1 L V = some (-1, V1) := by
      simp only [D_M_touch, e1, q_bd, R.z_4, e_srcOut R1 (x := x1) (by show M.1.1.2.1 1 ≤ 16; omega) (by show zOut x1 (M.1.1.2.1 1); rw [k1]; exact hx), q_b2, i00, if_true]
    simp only [D_L2, g1, q_bd, R.z_3, e2, q_b2, R.z_4, e3, if_true]
    exact hK _ _ _ _ _ rfl R1 (C.o0 0)
theorem l_6 (R : RZ b A M o L V) (C : Cp A M) (g1 : g_sx Ln xs (v4 + 1) = some x1) (hK : zGo b L K) : D_L6 Ln xs b (b + 5) (b + 26) v4 K L V = some () := by
  have W := C.W
  have h16 := W.ns
  have k2 := C.F.k2
  rcases z_dI x1 A.1.1.1.2 with ⟨s, hs, _, rfl⟩ | hx
  · have h := C.S s hs
    have hf := h.fo
    by_cases q : A.2.1.2.1 6 s = true
    · obtain ⟨V1, e1, R1⟩ := R.w_mo (j := 0) (Or.inl rfl) 0
      have es := e_stepIn R1 (s := s) (by show M.1.1.2.1 2 ≤ 16; omega) (by show s < M.1.1.2.1 2; omega)
      have e2 : D_A_force b (nI s) L V = some (0, V) := by
        simp (disch := omega) only [D_A_force, R.z_3, q_bd, a_stepIn R W hs, q_b2, q_on1, R.r_sZ, q, bI_t, i10, if_false]
      have e3 : D_M_force (b + 5) (nI s) L V = some (0, V1) := by
        simp (disch := omega) only [D_M_force, e1, q_bd, R.z_4, es, q_b2, i10, if_false, R1.r_mP, R1.r_mZ, hf, q, bI_t]
      simp only [D_L6, g1, q_bd, R.z_3, e2, q_b2, R.z_4, e3, if_true]
      exact hK _ _ _ _ _ rfl R1 (C.o0 0)
    · have q : A.2.1.2.1 6 s = false := by simpa using q
      obtain ⟨Va, ea, Ra⟩ := R.w_sZ (j := 6) (s := s) ⟨hs, Or.inl rfl⟩ true
      obtain ⟨Vb, eb, Rb⟩ := Ra.w_mo (j := 0) (Or.inl rfl) 0
      obtain ⟨Vc, ec, Rc⟩ := Rb.w_mZ (q := 7) (s := s) ⟨Or.inr (Or.inl rfl), by omega⟩ true
      rw [bI_t] at ea ec
      have es := e_stepIn Rb (s := s) (by show M.1.1.2.1 2 ≤ 16; omega) (by show s < M.1.1.2.1 2; omega)
      have e2 : D_A_force b (nI s) L V = some (1, Va) := by
        simp (disch := omega) only [D_A_force, R.z_3, q_bd, a_stepIn R W hs, q_b2, q_on1, R.r_sZ, q, bI_f, if_true, ea]
      have e3 : D_M_force (b + 5) (nI s) L Va = some (1, Vc) := by
        simp (disch := omega) only [D_M_force, eb, q_bd, R.z_4, es, q_b2, i10, if_false, Rb.r_mP, Rb.r_mZ, hf, q, bI_f, if_true, ec]
      simp only [D_L6, g1, q_bd, R.z_3, e2, q_b2, R.z_4, e3, if_true]
      refine hK _ _ _ _ _ rfl Rc ⟨W.of rfl rfl rfl rfl rfl, C.V.of rfl rfl rfl, ⟨C.F.k1, C.F.k2, ?_, C.F.fj, C.F.fi, C.F.fc, C.F.f0, ?_⟩, ?_, ⟨(C.o0 0).N.c, (C.o0 0).N.t, (C.o0 0).N.u, (C.o0 0).N.l⟩, C.c4⟩
      · intro f hf
        show up2 M.1.2.1 7 s true 6 f = A.1.1.2.2.2 f
        simp only [up2]; exact C.F.fz f hf
      · intro r h1 h2
        have h1 : A.1.1.1.2 ≤ r := h1
        have h := C.F.hi r h1 h2
        refine ⟨h.1, h.2.1, ?_, h.2.2.2⟩
        show up2 M.1.2.1 7 s true 7 r = false
        simp only [up2, show ¬ r = s by omega, and_false, if_false]; exact h.2.2.1
      · intro r hr
        have h := C.S r hr
        refine ⟨h.j4, h.j5, h.nr, h.nc, ?_, h.st, h.ca, h.rd, h.ok, fun k hk => ⟨(h.en k hk).f, (h.en k hk).y, (h.en k hk).c, (h.en k hk).w, (h.en k hk).h⟩, h.inj⟩
        show up2 M.1.2.1 7 s true 7 r = up2 A.2.1.2.1 6 s true 6 r
        by_cases g : r = s
        · simp [up2, g]
        · simp only [up2, g, and_false, if_false]; exact h.fo
  · obtain ⟨V1, e1, R1⟩ := R.w_mo (j := 0) (Or.inl rfl) 0
    have e2 : D_A_force b x1 L V = some (0, V) := by
      simp only [D_A_force, R.z_3, q_bd, a_stepOut R W hx, q_b2, q_on0]
    have e3 : D_M_force (b + 5) x1 L V = some (0, V1) := by
      simp only [D_M_force, e1, q_bd, R.z_4, e_stepOut R1 (x := x1) (by show M.1.1.2.1 2 ≤ 16; omega) (by show zOut x1 (M.1.1.2.1 2); rw [k2]; exact hx), q_b2, i00, if_true]
    simp only [D_L6, g1, q_bd, R.z_3, e2, q_b2, R.z_4, e3, if_true]
    exact hK _ _ _ _ _ rfl R1 (C.o0 0)
end
