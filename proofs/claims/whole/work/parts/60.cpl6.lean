def z_ct (f : Nat → Bool) : Nat → Int32
  | 0 => 0
  | n + 1 => z_ct f n + bI (f n)
theorem z_ct_congr {f g : Nat → Bool} : ∀ n, (∀ i, i < n → f i = g i) → z_ct f n = z_ct g n
  | 0, _ => rfl
  | n + 1, h => by
    simp only [z_ct]
    rw [z_ct_congr n (fun i hi => h i (by omega)), h n (by omega)]
theorem m_mv1_m1 {M : vM} {s r : Nat} (hr : r ≤ s) (ho : ∀ i, i < M.2.1.2.1 9 r → M.2.1.2.2 11 r i ≠ 2 → M.2.1.2.2 10 r i < r) : m_mv1 (m_m1 M s) r = m_mv1 M r := by
  unfold m_mv1
  have e21 : (m_m1 M s).1.2.1 21 r = M.1.2.1 21 r := by simp [m_m1, up2]
  have e7 : (m_m1 M s).1.2.1 7 r = M.1.2.1 7 r := by simp [m_m1, up2]
  have e : z_any (m_mp (m_m1 M s) r) 0 ((m_m1 M s).2.1.2.1 9 r) = z_any (m_mp M r) 0 (M.2.1.2.1 9 r) := by
    refine z_any_congr _ _ fun i _ hi => ?_
    have hi : i < M.2.1.2.1 9 r := by simpa [m_m1] using hi
    unfold m_mp
    by_cases g : M.2.1.2.2 11 r i = 2
    · have e1 : m_as (m_m1 M s) r 0 i = m_as M r 0 i := by
        have t : (m_m1 M s).1.2.1 6 = M.1.2.1 6 := by funext q; simp [m_m1, up2]
        unfold m_as m_va m_th m_pt
        rw [t]; rfl
      rw [e1]
      show (if M.2.1.2.2 11 r i = 2 then _ else _) = _
      rw [if_pos g, if_pos g]
    · show (if M.2.1.2.2 11 r i = 2 then _ else (m_m1 M s).1.2.1 22 (M.2.1.2.2 10 r i)) = _
      rw [if_neg g, if_neg g]
      have := ho i hi g
      have hne : M.2.1.2.2 10 r i ≠ s := by omega
      simp [m_m1, up2, hne]
  rw [e21, e7, e]
  rfl
theorem m_mk_re : ∀ (d s : Nat) (M : vM), ∃ Z C, m_mk s d M = { M with fst.snd.fst := Z, fst.snd.snd.snd := C } ∧ (∀ j, j ≠ 22 → Z j = M.1.2.1 j) ∧ (∀ i, i ≠ 4 → C i = M.1.2.2.2 i)
  | 0, _, M => ⟨M.1.2.1, M.1.2.2.2, rfl, fun _ _ => rfl, fun _ _ => rfl⟩
  | d + 1, s, M => by
    obtain ⟨Z, C, h1, h2, h3⟩ := m_mk_re d (s + 1) (m_m1 M s)
    refine ⟨Z, C, by show m_mk (s + 1) d (m_m1 M s) = _; rw [h1]; rfl, fun j hj => ?_, fun i hi => ?_⟩
    · rw [h2 j hj]; funext r; simp [m_m1, up2, hj]
    · rw [h3 i hi]; simp [m_m1, up1, hi]
theorem m_mk_ok : ∀ (d s : Nat) (M : vM), (∀ t i, t < s + d → i < M.2.1.2.1 9 t → M.2.1.2.2 11 t i ≠ 2 → M.2.1.2.2 10 t i < t) → (∀ r, r < s → M.1.2.1 22 r = m_mv1 M r) → M.1.2.2.2 4 = z_ct (M.1.2.1 22) s → (∀ r, r < s + d → (m_mk s d M).1.2.1 22 r = m_mv1 (m_mk s d M) r) ∧ (m_mk s d M).1.2.2.2 4 = z_ct ((m_mk s d M).1.2.1 22) (s + d)
  | 0, s, M, _, h1, h2 => ⟨fun r hr => h1 r hr, h2⟩
  | d + 1, s, M, ho, h1, h2 => by
    have key := m_mk_ok d (s + 1) (m_m1 M s) (fun t i ht => ho t i (by omega)) ?_ ?_
    · rw [show s + (d + 1) = s + 1 + d by omega]; exact key
    · intro r hr
      rw [m_mv1_m1 (by omega) (fun i => ho r i (by omega))]
      by_cases g : r = s
      · subst g; simp [m_m1, up2]
      · rw [← h1 r (by omega)]; simp [m_m1, up2, g]
    · simp only [z_ct]
      have e1 : (m_m1 M s).1.2.2.2 4 = M.1.2.2.2 4 + bI (m_mv1 M s) := by simp [m_m1, up1]
      have e2 : (m_m1 M s).1.2.1 22 s = m_mv1 M s := by simp [m_m1, up2]
      rw [e1, e2, h2]
      congr 1
      refine z_ct_congr _ fun i hi => ?_
      have : i ≠ s := by omega
      simp [m_m1, up2, this]
theorem mS.mv1 {M M' : vM} {s r : Nat} (h : mS M M' s) (hr : r ≠ s) : m_mv1 M' r = m_mv1 M r := by
  unfold m_mv1
  rw [h.z21, h.nc r hr, h.fo r hr, h.n9]
  congr 2
  refine z_any_congr _ _ fun i _ _ => ?_
  unfold m_mp m_as m_th m_va
  rw [h.R, h.z22, h.z6, h.J, h.h r hr, h.w r hr]
  by_cases g : M.2.1.2.2 11 r i = 2
  · simp only [g, if_true]
  · simp only [g, if_false]
def Iv (n : Nat) (A : vA) (M : vM) : Prop := (WA A) ∧ (Cf A M) ∧ (∀ r, r < A.1.1.1.2 → Cs A M r) ∧ (Cn A M) ∧ (∀ r, r < A.1.1.1.2 → A.2.1.2.1 7 r = M.1.2.1 21 r) ∧ (∀ t u i, u < t → t < A.1.1.1.2 → M.1.2.1 21 t = true → i < M.2.1.2.1 9 t → M.2.1.2.2 11 t i ≠ 2 → M.2.1.2.2 10 t i = u → M.1.2.1 21 u = true) ∧ (∀ r, r < n → r < A.1.1.1.2 → A.2.1.2.1 8 r = M.1.2.1 22 r) ∧ (∀ r, n ≤ r → r < A.1.1.1.2 → A.2.1.2.1 8 r = false) ∧ (∀ r, n ≤ r → r < A.1.1.1.2 → M.1.2.1 22 r = m_mv1 M r) ∧ (∀ r, n ≤ r → r < A.1.1.1.2 → A.2.1.2.2.1 9 r = 0 ∧ A.2.1.2.2.1 10 r = -1) ∧ (∀ r, r < n → r < A.1.1.1.2 → M.1.2.1 21 r = true → A.2.1.2.2.1 9 r = 5 ∨ 0 < A.2.1.1.2 5 r) ∧ (A.1.2.2.1 4 = z_ct (M.1.2.1 22) n) ∧ (M.1.2.2.2 4 = z_ct (M.1.2.1 22) A.1.1.1.2)
theorem Iv.W {n : Nat} {A : vA} {M : vM} (z_h : Iv n A M) : WA A := z_h.1
theorem Iv.F {n : Nat} {A : vA} {M : vM} (z_h : Iv n A M) : Cf A M := z_h.2.1
theorem Iv.S {n : Nat} {A : vA} {M : vM} (z_h : Iv n A M) : ∀ r, r < A.1.1.1.2 → Cs A M r := z_h.2.2.1
theorem Iv.N {n : Nat} {A : vA} {M : vM} (z_h : Iv n A M) : Cn A M := z_h.2.2.2.1
theorem Iv.tk {n : Nat} {A : vA} {M : vM} (z_h : Iv n A M) : ∀ r, r < A.1.1.1.2 → A.2.1.2.1 7 r = M.1.2.1 21 r := z_h.2.2.2.2.1
theorem Iv.cl {n : Nat} {A : vA} {M : vM} (z_h : Iv n A M) : ∀ t u i, u < t → t < A.1.1.1.2 → M.1.2.1 21 t = true → i < M.2.1.2.1 9 t → M.2.1.2.2 11 t i ≠ 2 → M.2.1.2.2 10 t i = u → M.1.2.1 21 u = true := z_h.2.2.2.2.2.1
theorem Iv.mq {n : Nat} {A : vA} {M : vM} (z_h : Iv n A M) : ∀ r, r < n → r < A.1.1.1.2 → A.2.1.2.1 8 r = M.1.2.1 22 r := z_h.2.2.2.2.2.2.1
theorem Iv.m0 {n : Nat} {A : vA} {M : vM} (z_h : Iv n A M) : ∀ r, n ≤ r → r < A.1.1.1.2 → A.2.1.2.1 8 r = false := z_h.2.2.2.2.2.2.2.1
theorem Iv.mv {n : Nat} {A : vA} {M : vM} (z_h : Iv n A M) : ∀ r, n ≤ r → r < A.1.1.1.2 → M.1.2.1 22 r = m_mv1 M r := z_h.2.2.2.2.2.2.2.2.1
theorem Iv.z9 {n : Nat} {A : vA} {M : vM} (z_h : Iv n A M) : ∀ r, n ≤ r → r < A.1.1.1.2 → A.2.1.2.2.1 9 r = 0 ∧ A.2.1.2.2.1 10 r = -1 := z_h.2.2.2.2.2.2.2.2.2.1
theorem Iv.ok {n : Nat} {A : vA} {M : vM} (z_h : Iv n A M) : ∀ r, r < n → r < A.1.1.1.2 → M.1.2.1 21 r = true → A.2.1.2.2.1 9 r = 5 ∨ 0 < A.2.1.1.2 5 r := z_h.2.2.2.2.2.2.2.2.2.2.1
theorem Iv.ca {n : Nat} {A : vA} {M : vM} (z_h : Iv n A M) : A.1.2.2.1 4 = z_ct (M.1.2.1 22) n := z_h.2.2.2.2.2.2.2.2.2.2.2.1
theorem Iv.cm {n : Nat} {A : vA} {M : vM} (z_h : Iv n A M) : M.1.2.2.2 4 = z_ct (M.1.2.1 22) A.1.1.1.2 := z_h.2.2.2.2.2.2.2.2.2.2.2.2
theorem Cs.b0 {A : vA} {M : vM} {s r : Nat} (h : Cs A M r) : Cs (a_b0 A s) M r := ⟨h.j4, h.j5, h.nr, h.nc, by rw [h.fo]; simp [a_b0, up2], h.st, h.ca, h.rd, h.ok, fun k hk => ⟨(h.en k hk).f, (h.en k hk).y, (h.en k hk).c, (h.en k hk).w, (h.en k hk).h⟩, h.inj⟩
theorem i32_z (a : Int32) : a + 0 = a := by simp
theorem Iv.skip {n : Nat} {A : vA} {M : vM} (h : Iv n A M) (hn : n < A.1.1.1.2) (ht : A.2.1.2.1 7 n = false) : Iv (n + 1) A M := by
  have ez : M.1.2.1 22 n = false := by
    rw [h.mv n (by omega) hn]; unfold m_mv1; rw [← h.tk n hn, ht]; rfl
  refine ⟨h.W, h.F, h.S, h.N, h.tk, h.cl, fun r h1 h2 => ?_, fun r h1 h2 => h.m0 r (by omega) h2, fun r h1 h2 => h.mv r (by omega) h2, fun r h1 h2 => h.z9 r (by omega) h2, fun r h1 h2 h3 => ?_, ?_, h.cm⟩
  · by_cases g : r = n
    · subst g; rw [ez, h.m0 r (by omega) h2]
    · exact h.mq r (by omega) h2
  · by_cases g : r = n
    · subst g; rw [h.tk r h2, h3] at ht; exact absurd ht (by decide)
    · exact h.ok r (by omega) h2 h3
  · simp only [z_ct]
    rw [ez, show bI false = 0 from rfl, i32_z]; exact h.ca
theorem Iv.go {n : Nat} {A : vA} {M : vM} (h : Iv n A M) (hn : n < A.1.1.1.2) (ht : A.2.1.2.1 7 n = true) : Iv (n + 1) (a_b1 A n) (m_go M n).2 ∧ (m_go M n).1 = decide ((a_b1 A n).2.1.2.2.1 10 n ≠ -1) := by
  have h0 := h.S n hn
  have ez : M.1.2.1 21 n = true := by rw [← h.tk n hn]; exact ht
  have emk : a_mk A n = M.1.2.1 22 n := by
    rw [cp_mk h.W h.F h0 (fun r hr => h.mq r hr (by omega)), h.mv n (by omega) hn]
    unfold m_mv1
    rw [ez, Bool.true_and]
  have W0 : WA (a_b0 A n) := h.W.of rfl rfl rfl rfl rfl
  have F0 : Cf (a_b0 A n) M := ⟨h.F.k1, h.F.k2, h.F.fz, h.F.fj, h.F.fi, h.F.fc, h.F.f0, h.F.hi⟩
  have N0 : Cn (a_b0 A n) M := ⟨fun i hi => by rw [h.N.c i hi]; simp [a_b0, up1, show i ≠ 4 by omega], h.N.t, h.N.u, h.N.l⟩
  have g := cp_go (A := a_b0 A n) (M := M) (s := n) W0 F0 hn (fun r hr => (h.S r (by omega)).b0) N0 (by
    intro i hi hq
    have hi : i < A.2.1.1.2 3 n := hi
    rcases h0.code h.W.nf hi with ⟨a1, a2, a3, a4⟩ | ⟨a1, a2, a3, a4, a5⟩
    · exact absurd a4 hq
    · exact h.ok _ a2 (by omega) (h.cl n _ i a2 hn ez (by rw [h0.nr]; exact hi) (by omega) rfl)) (h.z9 n (by omega) hn).1 (h.z9 n (by omega) hn).2 (by simp [a_b0, up2, emk])
  have hS := aS.bw (a_b0 A n) n
  have hM := mS.go M n
  have ens : (a_b1 A n).1.1.1.2 = A.1.1.1.2 := hS.ns
  refine ⟨⟨h.W.b1 hn, F0.keep hS hM hn, ?_, g.cn, ?_, ?_, ?_, ?_, ?_, ?_, ?_, ?_, ?_⟩, g.an⟩
  · rw [ens]
    intro r hr
    by_cases q : r = n
    · subst q; exact g.cs
    · exact ((h.S r hr).b0 (s := n)).keep hS hM q
  · rw [ens]
    intro r hr
    rw [hM.z21, ← h.tk r hr]
    show (a_bw (a_b0 A n) n).2.1.2.1 7 r = _
    rw [hS.tk]; simp [a_b0, up2]
  · rw [ens, hM.z21, hM.n9, hM.R]; exact h.cl
  · rw [ens]
    intro r h1 h2
    rw [hM.z22]
    show (a_bw (a_b0 A n) n).2.1.2.1 8 r = _
    rw [hS.mq]
    by_cases q : r = n
    · subst q; rw [← emk]; simp [a_b0, up2]
    · rw [← h.mq r (by omega) h2]; simp [a_b0, up2, q]
  · rw [ens]
    intro r h1 h2
    show (a_bw (a_b0 A n) n).2.1.2.1 8 r = _
    rw [hS.mq, ← h.m0 r (by omega) h2]
    simp [a_b0, up2, show r ≠ n by omega]
  · rw [ens]
    intro r h1 h2
    rw [hM.z22, h.mv r (by omega) h2, hM.mv1 (by omega)]
  · rw [ens]
    intro r h1 h2
    have := h.z9 r (by omega) h2
    show (a_bw (a_b0 A n) n).2.1.2.2.1 9 r = 0 ∧ (a_bw (a_b0 A n) n).2.1.2.2.1 10 r = -1
    rw [hS.si r 9 (by omega), hS.si r 10 (by omega)]
    exact this
  · rw [ens]
    intro r h1 h2 h3
    by_cases q : r = n
    · subst q; exact g.ok
    · rw [hM.z21] at h3
      have := h.ok r (by omega) h2 h3
      show (a_bw (a_b0 A n) n).2.1.2.2.1 9 r = 5 ∨ 0 < (a_bw (a_b0 A n) n).2.1.1.2 5 r
      rw [hS.si r 9 q, hS.nc r q]
      exact this
  · show (a_bw (a_b0 A n) n).1.2.2.1 4 = _
    rw [g.c4, hM.z22]
    simp only [z_ct]
    rw [← h.ca, ← emk]; simp [a_b0, up1]
  · rw [hM.c4, hM.z22, ens]; exact h.cm
theorem Iv.bd : ∀ (d n : Nat) (a : Int32) (A : vA) (M : vM), Iv n A M → n + d = A.1.1.1.2 → (a_bd n d a A).1 = (m_bd n d a M).1 ∧ Iv A.1.1.1.2 (a_bd n d a A).2 (m_bd n d a M).2 ∧ (a_bd n d a A).2.1.1.1.2 = A.1.1.1.2
  | 0, n, a, A, M, h, hn => by
    have : n = A.1.1.1.2 := by omega
    subst this
    exact ⟨rfl, h, rfl⟩
  | d + 1, n, a, A, M, h, hn => by
    have hlt : n < A.1.1.1.2 := by omega
    simp only [a_bd, m_bd]
    rw [← h.tk n hlt]
    by_cases g : A.2.1.2.1 7 n = true
    · rw [if_pos g, if_pos g]
      obtain ⟨h1, h2⟩ := h.go hlt g
      rw [h2]
      have e := (a_b1_ns A n).1
      have key := Iv.bd d (n + 1) (a + bI (decide ((a_b1 A n).2.1.2.2.1 10 n ≠ -1))) (a_b1 A n) (m_go M n).2 h1 (by omega)
      rw [e] at key
      exact key
    · rw [if_neg g, if_neg g]
      exact Iv.bd d (n + 1) a A M (h.skip hlt (by simpa using g)) (by omega)
