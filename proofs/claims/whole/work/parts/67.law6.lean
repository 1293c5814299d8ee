theorem z_low {b n : Nat} {A : vA} (h : zLay b A n) {p : zP} (hp : zv A p) : za b A p < n := by
  have hl := h.low
  cases p using zP_cas <;> simp only [zv, za] at hp ⊢
  all_goals first
    | omega
    | (have := h.src _ hp; omega)
    | (have := h.stp _ hp.1; omega)
theorem x_wr {L : gL} {V : gV} {k a i n : Nat} {t : gT} (h : L.2 k a = some n) (hi : i < n) : g_wr L V k a i t = some (g_st V k a i t) := by
  simp only [g_wr, h]; exact if_pos hi
theorem x_wa {L : gL} {V : gV} {k a i n : Nat} {t : gT} (h : L.2 k a = some n) (hi : i < n) (hn : n < 2 ^ 31) : g_wa L V k a (nI i) t = some (g_st V k a i t) := by
  simp only [g_wa, q_ix h hi hn]; rfl
theorem x_rR {L : gL} {V : gV} {k a i n : Nat} {r : Option Nat} (h : L.2 k a = some n) (hi : i < n) (hv : V k a i = tR r) : g_rR L V k a i = some r := by
  simp only [g_rR, g_rd, h, if_pos hi, Option.bind, hv, g_toR]
theorem x_rI {L : gL} {V : gV} {k a i n : Nat} {r : Int32} (h : L.2 k a = some n) (hi : i < n) (hv : V k a i = tI r) : g_rI L V k a i = some r := by
  simp only [g_rI, g_rd, h, if_pos hi, Option.bind, hv, g_toI]
theorem x_nL {L : gL} {k n : Nat} : (g_nL L k n).2 k L.1 = some n := by simp [g_nL]
theorem x_nO {L : gL} {k n k' a : Nat} (h : a < L.1) : (g_nL L k n).2 k' a = L.2 k' a := by
  simp only [g_nL]; rw [if_neg (by omega)]
theorem x_n1 {L : gL} {k n : Nat} : (g_nL L k n).1 = L.1 + 1 := rfl
def zB (b : Nat) (L : gL) : Prop := L.2 103 (b + 1) = some 16 ∧ L.2 104 (b + 2) = some 16
def a_nf (A : vA) (n : Nat) (v : Int64) : vA := { A with fst.fst.fst.fst := A.1.1.1.1 + 1, fst.fst.snd.fst := up1 A.1.1.2.1 A.1.1.1.1 n, fst.fst.snd.snd.snd := up1 A.1.1.2.2.2 A.1.1.1.1 true, fst.snd.fst.fst := up1 A.1.2.1.1 A.1.1.1.1 v, fst.snd.fst.snd := up1 A.1.2.1.2 A.1.1.1.1 0 }
def m_nf (M : vM) (v : Int64) : vM := { M with fst.fst.snd.snd := up2 M.1.1.2.2 3 (M.1.1.2.1 1) v, fst.snd.fst := up2 M.1.2.1 6 (M.1.1.2.1 1) true, fst.fst.snd.fst := up1 M.1.1.2.1 1 (M.1.1.2.1 1 + 1) }
theorem RZ.newf {b : Nat} {A : vA} {M : vM} {o v : Int64} {L L' : gL} {V V' : gV} (R : RZ b A M o L V) (hn : L'.1 = L.1 + 1) (hL : ∀ k a, a < L.1 → L'.2 k a = L.2 k a) (hV : ∀ k a i, a < L.1 → ¬ (k = 103 ∧ a = b + 1 ∧ i = A.1.1.1.1) → ¬ (k = 3 ∧ a = b ∧ i = 1) → V' k a i = V k a i) (hA : L'.2 103 (b + 1) = some 16) (hs : L'.2 1 L.1 = some 3) (v0 : V' 1 L.1 0 = tI 1) (v1 : V' 1 L.1 1 = tJ v) (v2 : V' 1 L.1 2 = tI 0) (va : V' 103 (b + 1) A.1.1.1.1 = tR (some L.1)) (vn : V' 3 b 1 = tI (nI (A.1.1.1.1 + 1))) : RZ b (a_nf A L.1 v) M o L' V' := by
  have lay := R.lay
  have hsrc : ∀ f, f < A.1.1.1.1 → (a_nf A L.1 v).1.1.2.1 f = A.1.1.2.1 f := fun f hf => by
    simp only [a_nf, up1]; rw [if_neg (by omega)]
  have hnew : (a_nf A L.1 v).1.1.2.1 A.1.1.1.1 = L.1 := by simp [a_nf, up1]
  have key : ∀ p, zv (a_nf A L.1 v) p → (zv A p ∧ za b (a_nf A L.1 v) p = za b A p ∧ ((zc b (a_nf A L.1 v) M o p = zc b A M o p ∧ ¬ (zk p = 103 ∧ za b A p = b + 1 ∧ zi p = A.1.1.1.1) ∧ ¬ (zk p = 3 ∧ za b A p = b ∧ zi p = 1)) ∨ p = zP.aN 1)) ∨ p = zP.af A.1.1.1.1 ∨ p = zP.fZ A.1.1.1.1 ∨ p = zP.fJ A.1.1.1.1 ∨ p = zP.fI A.1.1.1.1 := by
    intro p hp
    cases p using zP_cas
    case af f =>
      have hp : f < A.1.1.1.1 + 1 ∧ f < 16 := hp
      by_cases q : f = A.1.1.1.1
      · subst q; exact Or.inr (Or.inl rfl)
      · refine Or.inl ⟨⟨by omega, hp.2⟩, rfl, Or.inl ⟨?_, ?_, ?_⟩⟩
        · simp only [zc]; rw [hsrc f (by omega)]
        · simp only [zk, za, zi]; omega
        · simp only [zk]; omega
    case fZ f =>
      have hp : f < A.1.1.1.1 + 1 := hp
      by_cases q : f = A.1.1.1.1
      · subst q; exact Or.inr (Or.inr (Or.inl rfl))
      · refine Or.inl ⟨by show f < A.1.1.1.1; omega, ?_, Or.inl ⟨?_, ?_, ?_⟩⟩
        · simp only [za]; rw [hsrc f (by omega)]
        · simp only [zc, a_nf, up1]; rw [if_neg q]
        · simp only [zk]; omega
        · simp only [zk]; omega
    case fJ f =>
      have hp : f < A.1.1.1.1 + 1 := hp
      by_cases q : f = A.1.1.1.1
      · subst q; exact Or.inr (Or.inr (Or.inr (Or.inl rfl)))
      · refine Or.inl ⟨by show f < A.1.1.1.1; omega, ?_, Or.inl ⟨?_, ?_, ?_⟩⟩
        · simp only [za]; rw [hsrc f (by omega)]
        · simp only [zc, a_nf, up1]; rw [if_neg q]
        · simp only [zk]; omega
        · simp only [zk]; omega
    case fI f =>
      have hp : f < A.1.1.1.1 + 1 := hp
      by_cases q : f = A.1.1.1.1
      · subst q; exact Or.inr (Or.inr (Or.inr (Or.inr rfl)))
      · refine Or.inl ⟨by show f < A.1.1.1.1; omega, ?_, Or.inl ⟨?_, ?_, ?_⟩⟩
        · simp only [za]; rw [hsrc f (by omega)]
        · simp only [zc, a_nf, up1]; rw [if_neg q]
        · simp only [zk]; omega
        · simp only [zk]; omega
    case aN j =>
      have hp : j = 1 ∨ j = 3 := hp
      by_cases q : j = 1
      · subst q; exact Or.inl ⟨hp, rfl, Or.inr rfl⟩
      · refine Or.inl ⟨hp, rfl, Or.inl ⟨?_, ?_, ?_⟩⟩
        · simp only [zc, if_neg q]; rfl
        · simp only [zk]; omega
        · simp only [zk, za, zi]; omega
    case aP j =>
      have hp : j = 0 ∨ j = 2 ∨ j = 4 ∨ j = 5 := hp
      refine Or.inl ⟨hp, rfl, Or.inl ⟨rfl, ?_, ?_⟩⟩
      · simp only [zk]; omega
      · simp only [zk, za, zi]; omega
    case aI => exact Or.inl ⟨hp, rfl, Or.inl ⟨rfl, by simp only [zk]; omega, by simp only [zk, za, zi]; omega⟩⟩
    all_goals exact Or.inl ⟨hp, rfl, Or.inl ⟨rfl, by simp only [zk]; omega, by simp only [zk]; omega⟩⟩
  refine ⟨⟨?_, ?_, ?_, ?_, ?_⟩, ?_, ?_⟩
  · have := lay.low; omega
  · intro f hf
    have hf : f < A.1.1.1.1 + 1 := hf
    have := lay.low
    by_cases q : f = A.1.1.1.1
    · rw [q, hnew]; omega
    · rw [hsrc f (by omega)]; have := lay.src f (by omega); omega
  · intro f f' hf hf' e
    have hf : f < A.1.1.1.1 + 1 := hf
    have hf' : f' < A.1.1.1.1 + 1 := hf'
    by_cases q : f = A.1.1.1.1
    · by_cases q' : f' = A.1.1.1.1
      · omega
      · rw [q, hnew, hsrc f' (by omega)] at e; have := lay.src f' (by omega); omega
    · by_cases q' : f' = A.1.1.1.1
      · rw [q', hnew, hsrc f (by omega)] at e; have := lay.src f (by omega); omega
      · rw [hsrc f (by omega), hsrc f' (by omega)] at e
        exact lay.inj f f' (by omega) (by omega) e
  · intro s hs; have := lay.stp s hs; rw [hn]; exact ⟨this.1, by show A.1.1.2.2.1 s + 15 ≤ _; omega⟩
  · exact lay.sep
  · intro p hp
    rcases key p hp with ⟨h1, h2, _⟩ | h | h | h | h
    · rw [h2, hL _ _ (z_low lay h1)]; exact R.siz p h1
    · subst h; exact hA
    · subst h; simp only [zk, za, zs, hnew]; exact hs
    · subst h; simp only [zk, za, zs, hnew]; exact hs
    · subst h; simp only [zk, za, zs, hnew]; exact hs
  · intro p hp
    rcases key p hp with ⟨h1, h2, ⟨h3, h4, h5⟩ | h⟩ | h | h | h | h
    · rw [h2, hV _ _ _ (z_low lay h1) h4 h5, h3]; exact R.val p h1
    · subst h; exact vn
    · subst h; simp only [zk, za, zi, zc, hnew]; exact va
    · subst h; simp only [zk, za, zi, zc, hnew]; rw [v0]; simp [a_nf, up1, bI]
    · subst h; simp only [zk, za, zi, zc, hnew]; rw [v1]; simp [a_nf, up1]
    · subst h; simp only [zk, za, zi, zc, hnew]; rw [v2]; simp [a_nf, up1]
theorem cp_nf {A : vA} {M : vM} (C : Cp A M) (h : A.1.1.1.1 < 16) (n : Nat) (v : Int64) : Cp (a_nf A n v) (m_nf M v) := by
  have k1 := C.F.k1
  have W := C.W
  refine ⟨⟨by show A.1.1.1.1 + 1 ≤ 16; omega, W.ns, W.nr, W.nc, W.rd, W.pm⟩, ⟨?_, ?_, C.V.nr, C.V.nc, C.V.rv⟩, ⟨?_, ?_, ?_, ?_, ?_, ?_, ?_, ?_⟩, ?_, ⟨C.N.c, C.N.t, C.N.u, C.N.l⟩, C.c4⟩
  · show up1 M.1.1.2.1 1 (M.1.1.2.1 1 + 1) 1 ≤ 16; simp only [up1, if_true]; omega
  · show up1 M.1.1.2.1 1 (M.1.1.2.1 1 + 1) 2 ≤ 16; simp only [up1]; exact C.V.ns
  · show up1 M.1.1.2.1 1 (M.1.1.2.1 1 + 1) 1 = A.1.1.1.1 + 1; simp only [up1, if_true]; omega
  · show up1 M.1.1.2.1 1 (M.1.1.2.1 1 + 1) 2 = A.1.1.1.2; simp only [up1]; exact C.F.k2
  · intro f hf
    have hf : f < A.1.1.1.1 + 1 := hf
    show up2 M.1.2.1 6 (M.1.1.2.1 1) true 6 f = up1 A.1.1.2.2.2 A.1.1.1.1 true f
    rw [k1]
    by_cases q : f = A.1.1.1.1
    · simp [up1, up2, q]
    · simp only [up1, up2, q, and_false, if_false]; exact C.F.fz f (by omega)
  · intro f hf
    have hf : f < A.1.1.1.1 + 1 := hf
    show up2 M.1.1.2.2 3 (M.1.1.2.1 1) v 3 f = up1 A.1.2.1.1 A.1.1.1.1 v f
    rw [k1]
    by_cases q : f = A.1.1.1.1
    · simp [up1, up2, q]
    · simp only [up1, up2, q, and_false, if_false]; exact C.F.fj f (by omega)
  · intro f hf
    have hf : f < A.1.1.1.1 + 1 := hf
    show M.1.2.2.1 8 f = up1 A.1.2.1.2 A.1.1.1.1 0 f
    by_cases q : f = A.1.1.1.1
    · simp only [up1, q, if_true]; exact C.F.f0 A.1.1.1.1 (by omega) h
    · simp only [up1, q, if_false]; exact C.F.fi f (by omega)
  · intro f hf
    have hf : f < A.1.1.1.1 + 1 := hf
    show up1 A.1.1.2.2.2 A.1.1.1.1 true f = false → up1 A.1.2.1.1 A.1.1.1.1 v f = 0
    by_cases q : f = A.1.1.1.1
    · simp [up1, q]
    · simp only [up1, q, if_false]; exact C.F.fc f (by omega)
  · intro f h1 h2
    have h1 : A.1.1.1.1 + 1 ≤ f := h1
    exact C.F.f0 f (by omega) h2
  · intro s h1 h2
    have := C.F.hi s h1 h2
    refine ⟨this.1, this.2.1, ?_, this.2.2.2⟩
    show up2 M.1.2.1 6 (M.1.1.2.1 1) true 7 s = false
    simp only [up2]; exact this.2.2.1
  · intro r hr
    have h := C.S r hr
    refine ⟨?_, ?_, h.nr, h.nc, ?_, h.st, h.ca, h.rd, ?_, fun k hk => ⟨(h.en k hk).f, (h.en k hk).y, (h.en k hk).c, (h.en k hk).w, (h.en k hk).h⟩, h.inj⟩
    · show up2 M.1.1.2.2 3 (M.1.1.2.1 1) v 4 r = _; simp only [up2]; exact h.j4
    · show up2 M.1.1.2.2 3 (M.1.1.2.1 1) v 5 r = _; simp only [up2]; exact h.j5
    · show up2 M.1.2.1 6 (M.1.1.2.1 1) true 7 r = _; simp only [up2]; exact h.fo
    · intro i hi
      have := h.ok i hi
      show (M.2.1.2.2 11 r i = 2 ∧ M.2.1.2.2 10 r i < A.1.1.1.1 + 1) ∨ _
      rcases this with q | q
      · exact Or.inl ⟨q.1, by omega⟩
      · exact Or.inr q
section
variable {b : Nat} {A : vA} {M : vM} {o : Int64} {L : gL} {V : gV}
theorem a_file (R : RZ b A M o L V) (W : WA A) (B : zB b L) (v : Int64) (h : A.1.1.1.1 < 16) : ∃ L' V', D_A_file b v L V = some (nI A.1.1.1.1, L', V') ∧ RZ b (a_nf A L.1 v) M o L' V' ∧ zB b L' := by
  have lay := R.lay
  have low := lay.low
  have r1 : g_rI L V 3 b 1 = some (nI A.1.1.1.1) := R.r_aN (j := 1) (Or.inl rfl)
  have c16 : (nI A.1.1.1.1 < (16 : Int32)) = (A.1.1.1.1 < 16) := nI_ltp (c := 16) (by omega) (by omega)
  have s1 : (g_nL L 1 3).2 1 L.1 = some 3 := x_nL
  have s3 : (g_nL L 1 3).2 3 b = some 7 := by rw [x_nO (by omega)]; exact R.z_3
  have s103 : (g_nL L 1 3).2 103 (b + 1) = some 16 := by rw [x_nO (by omega)]; exact B.1
  obtain ⟨Va, ha⟩ : ∃ Va, g_nV V 1 L.1 df_S = Va := ⟨_, rfl⟩
  obtain ⟨Vb, hb⟩ : ∃ Vb, g_st (g_st (g_st Va 1 L.1 0 (tI 1)) 1 L.1 2 (tI 0)) 1 L.1 1 (tJ v) = Vb := ⟨_, rfl⟩
  have ei : D_S_init L.1 v (g_nL L 1 3) Va = some ((), Vb) := by
    simp only [D_S_init, x_wr s1 (show 0 < 3 by omega), q_bd, x_wr s1 (show 2 < 3 by omega), x_wr s1 (show 1 < 3 by omega), hb]
  have vb : ∀ k a i, a < L.1 → Vb k a i = V k a i := by
    intro k a i h
    rw [← hb, ← ha]
    have q : ¬ a = L.1 := by omega
    simp only [g_st, g_nV, q, and_false, false_and, if_false]
  have r1b : g_rI (g_nL L 1 3) (g_st Vb 103 (b + 1) A.1.1.1.1 (tR (some L.1))) 3 b 1 = some (nI A.1.1.1.1) := by
    refine x_rI s3 (by omega) ?_
    simp only [g_st, show ¬ (3 = 103) by omega, false_and, if_false]
    rw [vb _ _ _ (by omega)]; exact R.val (zP.aN 1) (Or.inl rfl)
  have r1c : g_rI (g_nL L 1 3) (g_st (g_st Vb 103 (b + 1) A.1.1.1.1 (tR (some L.1))) 3 b 1 (tI (nI (A.1.1.1.1 + 1)))) 3 b 1 = some (nI (A.1.1.1.1 + 1)) := by
    refine x_rI s3 (by omega) ?_
    simp only [g_st, and_self, if_true]
  refine ⟨g_nL L 1 3, g_st (g_st Vb 103 (b + 1) A.1.1.1.1 (tR (some L.1))) 3 b 1 (tI (nI (A.1.1.1.1 + 1))), ?_, ?_, ?_⟩
  · simp only [D_A_file, r1, q_bd, c16, h, if_true, R.r_aP0, g_new, q_bn, ha, ei, q_b2, s1, x_wa s103 h (by omega), r1b, nI_1, x_wr s3 (show 1 < 7 by omega), r1c, nI_p1]
  · refine R.newf rfl (fun k a h => x_nO h) (fun k a i h h1 h2 => ?_) s103 s1 ?_ ?_ ?_ ?_ ?_
    · simp only [g_st, h1, h2, if_false]; exact vb k a i h
    · simp only [g_st, show ¬ (1 = 3) by omega, show ¬ (1 = 103) by omega, false_and, if_false]
      rw [← hb]; simp [g_st]
    · simp only [g_st, show ¬ (1 = 3) by omega, show ¬ (1 = 103) by omega, false_and, if_false]
      rw [← hb]; simp [g_st]
    · simp only [g_st, show ¬ (1 = 3) by omega, show ¬ (1 = 103) by omega, false_and, if_false]
      rw [← hb]; simp [g_st]
    · simp [g_st]
    · simp [g_st]
  · exact ⟨s103, by rw [x_nO (by omega)]; exact B.2⟩
variable {Ln : Nat} {xs : Nat → Int32} {v4 x1 x2 x3 x4 : Int32} {K : gL → gV → Option Unit}
def zGB (b : Nat) (K : gL → gV → Option Unit) : Prop := ∀ A M o L V, zB b L → RZ b A M o L V → Cp A M → K L V = some ()
theorem l_0 (R : RZ b A M o L V) (C : Cp A M) (B : zB b L) (g1 : g_sx Ln xs (v4 + 1) = some x1) (g2 : g_sx Ln xs (v4 + 2) = some x2) (hK : zGB b K) : D_L0 Ln xs b (b + 5) (b + 26) v4 K L V = some () := by
  have W := C.W
  have hn := W.nf
  have k1 := C.F.k1
  obtain ⟨v, hv⟩ : ∃ v : Int64, ((x1.toInt64 <<< ((32 : Int32).toInt64 &&& 63)) ||| (x2.toInt64 &&& (4294967295 : Int64))) = v := ⟨_, rfl⟩
  by_cases h : A.1.1.1.1 < 16
  · obtain ⟨L', V', e1, R1, B1⟩ := a_file R W B v h
    obtain ⟨Va, ea, Ra⟩ := R1.w_mo (j := 0) (Or.inl rfl) 0
    obtain ⟨Vb, eb, Rb⟩ := Ra.w_mJ (q := 3) (s := M.1.1.2.1 1) ⟨Or.inl rfl, by omega⟩ v
    obtain ⟨Vc, ec, Rc⟩ := Rb.w_mZ (q := 6) (s := M.1.1.2.1 1) ⟨Or.inl rfl, by omega⟩ true
    obtain ⟨Vd, ed, Rd⟩ := Rc.w_mC (j := 1) (Or.inl rfl) (M.1.1.2.1 1 + 1)
    have c16 : (nI (M.1.1.2.1 1) = (16 : Int32)) = (M.1.1.2.1 1 = 16) := nI_eqp (c := 16) (by omega) (by omega)
    have ra : g_rI L' Va 4 (b + 5) 1 = some (nI (M.1.1.2.1 1)) := Ra.r_mC (Or.inl rfl)
    have rb : g_rI L' Vb 4 (b + 5) 1 = some (nI (M.1.1.2.1 1)) := Rb.r_mC (Or.inl rfl)
    have rc : g_rI L' Vc 4 (b + 5) 1 = some (nI (M.1.1.2.1 1)) := Rc.r_mC (Or.inl rfl)
    have rd : g_rI L' Vd 4 (b + 5) 1 = some (nI (M.1.1.2.1 1 + 1)) := by
      rw [Rd.r_mC (Or.inl rfl)]; simp [up1]
    rw [bI_t] at ec
    have e2 : D_M_file (b + 5) v L' V' = some (nI (M.1.1.2.1 1), Vd) := by
      simp (disch := omega) only [D_M_file, ea, q_bd, ra, c16, show ¬ M.1.1.2.1 1 = 16 by omega, if_false, Ra.r_mP, eb, Rb.r_mP, rb, ec, rc, nI_1, ed, rd, nI_p1]
    simp only [D_L0, g1, g2, q_bd, R.z_3, hv, e1, q_b3, R1.z_4, e2, q_b2, k1, if_true]
    exact hK _ _ _ _ _ B1 Rd (cp_nf (C.o0 0) h L.1 v)
  · have r1 : g_rI L V 3 b 1 = some (nI A.1.1.1.1) := R.r_aN (j := 1) (Or.inl rfl)
    have c16 : (nI A.1.1.1.1 < (16 : Int32)) = (A.1.1.1.1 < 16) := nI_ltp (c := 16) (by omega) (by omega)
    obtain ⟨Va, ea, Ra⟩ := R.w_mo (j := 0) (Or.inl rfl) 0
    have ra : g_rI L Va 4 (b + 5) 1 = some (nI (M.1.1.2.1 1)) := Ra.r_mC (Or.inl rfl)
    have c17 : (nI (M.1.1.2.1 1) = (16 : Int32)) = (M.1.1.2.1 1 = 16) := nI_eqp (c := 16) (by omega) (by omega)
    have e1 : D_A_file b v L V = some (-1, L, V) := by
      simp only [D_A_file, r1, q_bd, c16, h, if_false]
    have e2 : D_M_file (b + 5) v L V = some (-1, Va) := by
      simp only [D_M_file, ea, q_bd, ra, c17, show M.1.1.2.1 1 = 16 by omega, if_true]
      exact if_pos rfl
    simp only [D_L0, g1, g2, q_bd, R.z_3, hv, e1, q_b3, R.z_4, e2, q_b2, if_true]
    exact hK _ _ _ _ _ B Ra (C.o0 0)
end
