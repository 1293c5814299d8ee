theorem g_sx_in {Ln i : Nat} {xs : Nat → Int32} (h : i < Ln) (hL : Ln < 2 ^ 31) : g_sx Ln xs (nI i) = some (xs i) := by
  have h1 : ¬ nI i < 0 := nI_pos (by omega)
  have h2 : (nI i).toNatClampNeg = i := nI_clamp (by omega)
  simp only [g_sx, h2]
  rw [if_neg (fun q => q.elim h1 (by omega))]
theorem l_end {Ln i : Nat} (hL : Ln < 2 ^ 30) (hi : i < 2 ^ 30) : (nI Ln - 5 < nI i) = (Ln < i + 5) := by
  have e1 : (nI Ln).toInt = (Ln : Int) := nI_toInt (by omega)
  have e2 : (nI i).toInt = (i : Int) := nI_toInt (by omega)
  have e5 : (5 : Int32).toInt = 5 := by decide
  have e3 : (nI Ln - 5).toInt = (Ln : Int) - 5 := by
    rw [Int32.toInt_sub, e1, e5, Int.bmod_eq_of_le (by omega) (by omega)]
  rw [Int32.lt_iff_toInt_lt, e3, e2]
  exact propext ⟨fun _ => by omega, fun _ => by omega⟩
section
variable {b Ln : Nat} {xs : Nat → Int32}
theorem zGB.go {K : gL → gV → Option Unit} (h : zGB b K) {L : gL} (B : zB b L) : zGo b L K := by
  intro A M o L' V' e R C
  exact h A M o L' V' (by unfold zB; rw [e]; exact B) R C
theorem l_law (hL : Ln < 2 ^ 30) : ∀ (n k : Nat) (A : vA) (M : vM) (o : Int64) (L : gL) (V : gV), zB b L → RZ b A M o L V → Cp A M → 5 * k ≤ Ln → Ln < 5 * k + 5 * n → D_law Ln xs b (b + 5) (b + 26) n (nI (5 * k)) L V = some () := by
  intro n
  induction n with
  | zero => intro k A M o L V B R C h1 h2; omega
  | succ n ih =>
    intro k A M o L V B R C h1 h2
    rw [D_law]
    have le := l_end (Ln := Ln) (i := 5 * k) hL (by omega)
    by_cases g : Ln < 5 * k + 5
    · rw [if_pos (by rw [le]; exact g)]
    · rw [if_neg (by rw [le]; exact g)]
      have e5 : nI (5 * k) + 5 = nI (5 * (k + 1)) := nI_add (5 * k) 5
      have hK : zGB b (fun L V => D_law Ln xs b (b + 5) (b + 26) n (nI (5 * k) + 5) L V) := by
        intro A M o L V B R C
        show D_law Ln xs b (b + 5) (b + 26) n (nI (5 * k) + 5) L V = some ()
        rw [e5]
        exact ih (k + 1) A M o L V B R C (by omega) (by omega)
      have h := hK.go B
      have s0 : g_sx Ln xs (nI (5 * k)) = some (xs (5 * k)) := g_sx_in (by omega) (by omega)
      have s1 : g_sx Ln xs (nI (5 * k) + 1) = some (xs (5 * k + 1)) := by rw [nI_1]; exact g_sx_in (by omega) (by omega)
      have s2 : g_sx Ln xs (nI (5 * k) + 2) = some (xs (5 * k + 2)) := by rw [nI_a2]; exact g_sx_in (by omega) (by omega)
      have s3 : g_sx Ln xs (nI (5 * k) + 3) = some (xs (5 * k + 3)) := by rw [nI_a3]; exact g_sx_in (by omega) (by omega)
      have s4 : g_sx Ln xs (nI (5 * k) + 4) = some (xs (5 * k + 4)) := by rw [show nI (5 * k) + 4 = nI (5 * k + 4) from nI_add (5 * k) 4]; exact g_sx_in (by omega) (by omega)
      rw [s0, q_bd]
      by_cases c0 : xs (5 * k) &&& 31 = 0
      · rw [if_pos c0]; exact l_0 R C B s1 s2 hK
      rw [if_neg c0]
      by_cases c1 : xs (5 * k) &&& 31 = 1
      · rw [if_pos c1]; exact l_1 R C s1 s2 s3 s4 h
      rw [if_neg c1]
      by_cases c2 : xs (5 * k) &&& 31 = 2
      · rw [if_pos c2]; exact l_2 R C s1 h
      rw [if_neg c2]
      by_cases c3 : xs (5 * k) &&& 31 = 3
      · rw [if_pos c3]; exact l_3 R C B s1 s2 s3 s4 hK
      rw [if_neg c3]
      by_cases c4 : xs (5 * k) &&& 31 = 4
      · rw [if_pos c4]; exact l_4 R C s1 s2 h
      rw [if_neg c4]
      by_cases c5 : xs (5 * k) &&& 31 = 5
      · rw [if_pos c5]; exact l_5 R C s1 s2 s3 h
      rw [if_neg c5]
      by_cases c6 : xs (5 * k) &&& 31 = 6
      · rw [if_pos c6]; exact l_6 R C s1 h
      rw [if_neg c6]
      by_cases c7 : xs (5 * k) &&& 31 = 7
      · rw [if_pos c7]; exact l_7 R C s1 h
      rw [if_neg c7]
      by_cases c8 : xs (5 * k) &&& 31 = 8
      · rw [if_pos c8]; exact l_8 R C s1 h
      rw [if_neg c8]
      by_cases c9 : xs (5 * k) &&& 31 = 9
      · rw [if_pos c9]; exact l_9 R C s1 h
      rw [if_neg c9]
      by_cases c10 : xs (5 * k) &&& 31 = 10
      · rw [if_pos c10]; exact l_10 R C s1 h
      rw [if_neg c10]
      by_cases c11 : xs (5 * k) &&& 31 = 11
      · rw [if_pos c11]; exact l_11 R C s1 s2 h
      rw [if_neg c11]
      by_cases c12 : xs (5 * k) &&& 31 = 12
      · rw [if_pos c12]; exact l_12 R C s1 h
      rw [if_neg c12]
      by_cases c13 : xs (5 * k) &&& 31 = 13
      · rw [if_pos c13]; exact l_13 R C s1 s2 s3 h
      rw [if_neg c13]
      by_cases c14 : xs (5 * k) &&& 31 = 14
      · rw [if_pos c14]; exact l_14 R C s1 s2 h
      rw [if_neg c14]
      by_cases c15 : xs (5 * k) &&& 31 = 15
      · rw [if_pos c15]; exact l_15 R C s1 h
      rw [if_neg c15]
      by_cases c16 : xs (5 * k) &&& 31 = 16
      · rw [if_pos c16]; exact l_16 R C h
      rw [if_neg c16]
      rw [e5]
      exact ih (k + 1) A M o L V B R C (by omega) (by omega)
end
def zq (k : Nat) : gT := if k = 101 then tJ 0 else tI 0
def kq (q : Nat) : Nat := if q = 3 then 101 else if q = 4 then 101 else if q = 5 then 101 else if q = 6 then 102 else if q = 7 then 102 else if q = 8 then 100 else if q = 9 then 100 else if q = 10 then 100 else if q = 11 then 100 else if q = 12 then 100 else if q = 13 then 100 else if q = 14 then 101 else if q = 15 then 101 else if q = 16 then 102 else if q = 17 then 100 else if q = 18 then 100 else if q = 19 then 100 else if q = 20 then 100 else if q = 21 then 102 else if q = 22 then 102 else 0
def nq (q : Nat) : Nat := if q = 3 then 16 else if q = 4 then 16 else if q = 5 then 16 else if q = 6 then 16 else if q = 7 then 16 else if q = 8 then 16 else if q = 9 then 16 else if q = 10 then 96 else if q = 11 then 96 else if q = 12 then 16 else if q = 13 then 64 else if q = 14 then 64 else if q = 15 then 384 else if q = 16 then 384 else if q = 17 then 16 else if q = 18 then 16 else if q = 19 then 5 else if q = 20 then 4 else if q = 21 then 16 else if q = 22 then 16 else 0
def zM (L : gL) (V : gV) (h m : Nat) : Prop := (L.1 = h + 1 + m) ∧ (L.2 4 h = some 25) ∧ (∀ i, i = 0 ∨ i = 1 ∨ i = 2 ∨ i = 23 ∨ i = 24 → V 4 h i = tI 0) ∧ (∀ q, 3 ≤ q → q < 3 + m → V 4 h q = tR (some (h + (q - 2)))) ∧ (∀ q, 3 ≤ q → q < 3 + m → L.2 (kq q) (h + (q - 2)) = some (nq q)) ∧ (∀ q i, 3 ≤ q → q < 3 + m → V (kq q) (h + (q - 2)) i = zq (kq q))
theorem zM.n {L : gL} {V : gV} {h m : Nat} (z_h : zM L V h m) : L.1 = h + 1 + m := z_h.1
theorem zM.s {L : gL} {V : gV} {h m : Nat} (z_h : zM L V h m) : L.2 4 h = some 25 := z_h.2.1
theorem zM.z {L : gL} {V : gV} {h m : Nat} (z_h : zM L V h m) : ∀ i, i = 0 ∨ i = 1 ∨ i = 2 ∨ i = 23 ∨ i = 24 → V 4 h i = tI 0 := z_h.2.2.1
theorem zM.p {L : gL} {V : gV} {h m : Nat} (z_h : zM L V h m) : ∀ q, 3 ≤ q → q < 3 + m → V 4 h q = tR (some (h + (q - 2))) := z_h.2.2.2.1
theorem zM.sz {L : gL} {V : gV} {h m : Nat} (z_h : zM L V h m) : ∀ q, 3 ≤ q → q < 3 + m → L.2 (kq q) (h + (q - 2)) = some (nq q) := z_h.2.2.2.2.1
theorem zM.v {L : gL} {V : gV} {h m : Nat} (z_h : zM L V h m) : ∀ q i, 3 ≤ q → q < 3 + m → V (kq q) (h + (q - 2)) i = zq (kq q) := z_h.2.2.2.2.2
theorem m_one {L0 : gL} {V0 : gV} {L : gL} {V : gV} {h m k n : Nat} {d : Nat → gT} (hm : m < 20) (Z : zM L V h m) (f1 : ∀ k a, a < h → L.2 k a = L0.2 k a) (f2 : ∀ k a i, a < h → V k a i = V0 k a i) (hk : k = kq (3 + m)) (hn : n = nq (3 + m)) (hd : d = fun _ => zq (kq (3 + m))) : ∃ L' V', (∀ {β : Type} (K : gL → gV → Option β), (g_bn (g_new L V k n d) fun L1 V1 => Option.bind (g_wr L1 V1 4 h (3 + m) (tR (some L.1))) fun V2 => K L1 V2) = K L' V') ∧ zM L' V' h (m + 1) ∧ (∀ k a, a < h → L'.2 k a = L0.2 k a) ∧ (∀ k a i, a < h → V' k a i = V0 k a i) := by
  have hn1 := Z.n
  have s4 : (g_nL L k n).2 4 h = some 25 := by rw [x_nO (by omega)]; exact Z.s
  refine ⟨g_nL L k n, g_st (g_nV V k L.1 d) 4 h (3 + m) (tR (some L.1)), ?_, ⟨?_, s4, ?_, ?_, ?_, ?_⟩, ?_, ?_⟩
  · intro β K
    simp only [g_new, q_bn, x_wr s4 (show 3 + m < 25 by omega), q_bd]
  · rw [x_n1]; omega
  · intro i hi
    simp only [g_st, show ¬ i = 3 + m by omega, and_false, if_false, g_nV, show ¬ h = L.1 by omega]
    exact Z.z i hi
  · intro q h1 h2
    by_cases g : q = 3 + m
    · subst g; simp only [g_st, and_self, if_true]; rw [show L.1 = h + (3 + m - 2) by omega]
    · simp only [g_st, g, and_false, if_false, g_nV, show ¬ h = L.1 by omega]
      exact Z.p q h1 (by omega)
  · intro q h1 h2
    by_cases g : q = 3 + m
    · subst g; rw [show h + (3 + m - 2) = L.1 by omega, ← hk, ← hn]; exact x_nL
    · rw [x_nO (by omega)]; exact Z.sz q h1 (by omega)
  · intro q i h1 h2
    have a : ¬ h + (q - 2) = h := by omega
    simp only [g_st, a, false_and, and_false, if_false, g_nV]
    by_cases g : q = 3 + m
    · subst g; rw [if_pos ⟨hk.symm, by omega⟩, hd]
    · rw [if_neg (fun c => by omega)]; exact Z.v q i h1 (by omega)
  · intro k' a ha; rw [x_nO (by omega)]; exact f1 k' a ha
  · intro k' a i ha
    simp only [g_st, show ¬ a = h by omega, false_and, and_false, if_false, g_nV, show ¬ a = L.1 by omega]
    exact f2 k' a i ha
theorem m_init {L : gL} {V : gV} : ∃ L' V', D_M_init L.1 (g_nL L 4 25) (g_nV V 4 L.1 df_M) = some ((), L', V') ∧ zM L' V' L.1 20 ∧ (∀ k a, a < L.1 → L'.2 k a = L.2 k a) ∧ (∀ k a i, a < L.1 → V' k a i = V k a i) := by
  obtain ⟨L0, hL0⟩ : ∃ L0, g_nL L 4 25 = L0 := ⟨_, rfl⟩
  obtain ⟨V0, hV0⟩ : ∃ V0, g_nV V 4 L.1 df_M = V0 := ⟨_, rfl⟩
  have Z0 : zM L0 V0 L.1 0 := by
    refine ⟨by rw [← hL0]; rfl, by rw [← hL0]; exact x_nL, ?_, fun q h1 h2 => by omega, fun q h1 h2 => by omega, fun q i h1 h2 => by omega⟩
    intro i hi
    rw [← hV0]
    rcases hi with rfl | rfl | rfl | rfl | rfl <;> simp [g_nV, df_M]
  have f0 : ∀ k a, a < L.1 → L0.2 k a = L.2 k a := fun k a h => by rw [← hL0, x_nO h]
  have g0 : ∀ k a i, a < L.1 → V0 k a i = V k a i := fun k a i h => by
    rw [← hV0]; simp only [g_nV, show ¬ a = L.1 by omega, and_false, if_false]
  obtain ⟨L1, V1, k0, Z1, f1, g1⟩ := m_one (k := 101) (n := 16) (d := fun _ => tJ 0) (show 0 < 20 by omega) Z0 f0 g0 rfl rfl rfl
  obtain ⟨L2, V2, k1, Z2, f2, g2⟩ := m_one (k := 101) (n := 16) (d := fun _ => tJ 0) (show 1 < 20 by omega) Z1 f1 g1 rfl rfl rfl
  obtain ⟨L3, V3, k2, Z3, f3, g3⟩ := m_one (k := 101) (n := 16) (d := fun _ => tJ 0) (show 2 < 20 by omega) Z2 f2 g2 rfl rfl rfl
  obtain ⟨L4, V4, k3, Z4, f4, g4⟩ := m_one (k := 102) (n := 16) (d := fun _ => tI 0) (show 3 < 20 by omega) Z3 f3 g3 rfl rfl rfl
  obtain ⟨L5, V5, k4, Z5, f5, g5⟩ := m_one (k := 102) (n := 16) (d := fun _ => tI 0) (show 4 < 20 by omega) Z4 f4 g4 rfl rfl rfl
  obtain ⟨L6, V6, k5, Z6, f6, g6⟩ := m_one (k := 100) (n := 16) (d := fun _ => tI 0) (show 5 < 20 by omega) Z5 f5 g5 rfl rfl rfl
  obtain ⟨L7, V7, k6, Z7, f7, g7⟩ := m_one (k := 100) (n := 16) (d := fun _ => tI 0) (show 6 < 20 by omega) Z6 f6 g6 rfl rfl rfl
  obtain ⟨L8, V8, k7, Z8, f8, g8⟩ := m_one (k := 100) (n := 96) (d := fun _ => tI 0) (show 7 < 20 by omega) Z7 f7 g7 rfl rfl rfl
  obtain ⟨L9, V9, k8, Z9, f9, g9⟩ := m_one (k := 100) (n := 96) (d := fun _ => tI 0) (show 8 < 20 by omega) Z8 f8 g8 rfl rfl rfl
  obtain ⟨L10, V10, k9, Z10, f10, g10⟩ := m_one (k := 100) (n := 16) (d := fun _ => tI 0) (show 9 < 20 by omega) Z9 f9 g9 rfl rfl rfl
  obtain ⟨L11, V11, k10, Z11, f11, g11⟩ := m_one (k := 100) (n := 64) (d := fun _ => tI 0) (show 10 < 20 by omega) Z10 f10 g10 rfl rfl rfl
  obtain ⟨L12, V12, k11, Z12, f12, g12⟩ := m_one (k := 101) (n := 64) (d := fun _ => tJ 0) (show 11 < 20 by omega) Z11 f11 g11 rfl rfl rfl
  obtain ⟨L13, V13, k12, Z13, f13, g13⟩ := m_one (k := 101) (n := 384) (d := fun _ => tJ 0) (show 12 < 20 by omega) Z12 f12 g12 rfl rfl rfl
  obtain ⟨L14, V14, k13, Z14, f14, g14⟩ := m_one (k := 102) (n := 384) (d := fun _ => tI 0) (show 13 < 20 by omega) Z13 f13 g13 rfl rfl rfl
  obtain ⟨L15, V15, k14, Z15, f15, g15⟩ := m_one (k := 100) (n := 16) (d := fun _ => tI 0) (show 14 < 20 by omega) Z14 f14 g14 rfl rfl rfl
  obtain ⟨L16, V16, k15, Z16, f16, g16⟩ := m_one (k := 100) (n := 16) (d := fun _ => tI 0) (show 15 < 20 by omega) Z15 f15 g15 rfl rfl rfl
  obtain ⟨L17, V17, k16, Z17, f17, g17⟩ := m_one (k := 100) (n := 5) (d := fun _ => tI 0) (show 16 < 20 by omega) Z16 f16 g16 rfl rfl rfl
  obtain ⟨L18, V18, k17, Z18, f18, g18⟩ := m_one (k := 100) (n := 4) (d := fun _ => tI 0) (show 17 < 20 by omega) Z17 f17 g17 rfl rfl rfl
  obtain ⟨L19, V19, k18, Z19, f19, g19⟩ := m_one (k := 102) (n := 16) (d := fun _ => tI 0) (show 18 < 20 by omega) Z18 f18 g18 rfl rfl rfl
  obtain ⟨L20, V20, k19, Z20, f20, g20⟩ := m_one (k := 102) (n := 16) (d := fun _ => tI 0) (show 19 < 20 by omega) Z19 f19 g19 rfl rfl rfl
  refine ⟨L20, V20, ?_, Z20, f20, g20⟩
  rw [hL0, hV0]
  unfold D_M_init
  rw [k0, k1, k2, k3, k4, k5, k6, k7, k8, k9, k10, k11, k12, k13, k14, k15, k16, k17, k18, k19]
