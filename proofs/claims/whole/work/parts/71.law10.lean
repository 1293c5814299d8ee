def zI (L : gL) (V : gV) (b : Nat) : Prop := (L.1 = b + 5) ∧ (L.2 3 b = some 7) ∧ (L.2 103 (b + 1) = some 16) ∧ (L.2 104 (b + 2) = some 16) ∧ (L.2 100 (b + 3) = some 5) ∧ (L.2 100 (b + 4) = some 4) ∧ (V 3 b 0 = tR (some (b + 1))) ∧ (V 3 b 1 = tI 0) ∧ (V 3 b 2 = tR (some (b + 2))) ∧ (V 3 b 3 = tI 0) ∧ (V 3 b 4 = tR (some (b + 3))) ∧ (V 3 b 5 = tR (some (b + 4))) ∧ (V 3 b 6 = tI 0) ∧ (∀ i, V 100 (b + 3) i = tI 0) ∧ (∀ i, V 100 (b + 4) i = tI 0)
theorem zI.n {L : gL} {V : gV} {b : Nat} (z_h : zI L V b) : L.1 = b + 5 := z_h.1
theorem zI.s3 {L : gL} {V : gV} {b : Nat} (z_h : zI L V b) : L.2 3 b = some 7 := z_h.2.1
theorem zI.sf {L : gL} {V : gV} {b : Nat} (z_h : zI L V b) : L.2 103 (b + 1) = some 16 := z_h.2.2.1
theorem zI.ss {L : gL} {V : gV} {b : Nat} (z_h : zI L V b) : L.2 104 (b + 2) = some 16 := z_h.2.2.2.1
theorem zI.sc {L : gL} {V : gV} {b : Nat} (z_h : zI L V b) : L.2 100 (b + 3) = some 5 := z_h.2.2.2.2.1
theorem zI.st {L : gL} {V : gV} {b : Nat} (z_h : zI L V b) : L.2 100 (b + 4) = some 4 := z_h.2.2.2.2.2.1
theorem zI.v0 {L : gL} {V : gV} {b : Nat} (z_h : zI L V b) : V 3 b 0 = tR (some (b + 1)) := z_h.2.2.2.2.2.2.1
theorem zI.v1 {L : gL} {V : gV} {b : Nat} (z_h : zI L V b) : V 3 b 1 = tI 0 := z_h.2.2.2.2.2.2.2.1
theorem zI.v2 {L : gL} {V : gV} {b : Nat} (z_h : zI L V b) : V 3 b 2 = tR (some (b + 2)) := z_h.2.2.2.2.2.2.2.2.1
theorem zI.v3 {L : gL} {V : gV} {b : Nat} (z_h : zI L V b) : V 3 b 3 = tI 0 := z_h.2.2.2.2.2.2.2.2.2.1
theorem zI.v4 {L : gL} {V : gV} {b : Nat} (z_h : zI L V b) : V 3 b 4 = tR (some (b + 3)) := z_h.2.2.2.2.2.2.2.2.2.2.1
theorem zI.v5 {L : gL} {V : gV} {b : Nat} (z_h : zI L V b) : V 3 b 5 = tR (some (b + 4)) := z_h.2.2.2.2.2.2.2.2.2.2.2.1
theorem zI.v6 {L : gL} {V : gV} {b : Nat} (z_h : zI L V b) : V 3 b 6 = tI 0 := z_h.2.2.2.2.2.2.2.2.2.2.2.2.1
theorem zI.vc {L : gL} {V : gV} {b : Nat} (z_h : zI L V b) : ∀ i, V 100 (b + 3) i = tI 0 := z_h.2.2.2.2.2.2.2.2.2.2.2.2.2.1
theorem zI.vt {L : gL} {V : gV} {b : Nat} (z_h : zI L V b) : ∀ i, V 100 (b + 4) i = tI 0 := z_h.2.2.2.2.2.2.2.2.2.2.2.2.2.2
theorem a_init {L : gL} {V : gV} : ∃ L' V', D_A_init L.1 (g_nL L 3 7) (g_nV V 3 L.1 df_A) = some ((), L', V') ∧ zI L' V' L.1 := by
  obtain ⟨L0, hL0⟩ : ∃ L0, g_nL L 3 7 = L0 := ⟨_, rfl⟩
  obtain ⟨L1, hL1⟩ : ∃ L1, g_nL L0 103 16 = L1 := ⟨_, rfl⟩
  obtain ⟨L2, hL2⟩ : ∃ L2, g_nL L1 104 16 = L2 := ⟨_, rfl⟩
  obtain ⟨L3, hL3⟩ : ∃ L3, g_nL L2 100 5 = L3 := ⟨_, rfl⟩
  obtain ⟨L4, hL4⟩ : ∃ L4, g_nL L3 100 4 = L4 := ⟨_, rfl⟩
  have n0 : L0.1 = L.1 + 1 := by rw [← hL0]; rfl
  have n1 : L1.1 = L.1 + 2 := by rw [← hL1, x_n1, n0]
  have n2 : L2.1 = L.1 + 3 := by rw [← hL2, x_n1, n1]
  have n3 : L3.1 = L.1 + 4 := by rw [← hL3, x_n1, n2]
  have n4 : L4.1 = L.1 + 5 := by rw [← hL4, x_n1, n3]
  have a0 : L0.2 3 L.1 = some 7 := by rw [← hL0]; exact x_nL
  have a1 : L1.2 3 L.1 = some 7 := by rw [← hL1, x_nO (by omega)]; exact a0
  have a2 : L2.2 3 L.1 = some 7 := by rw [← hL2, x_nO (by omega)]; exact a1
  have a3 : L3.2 3 L.1 = some 7 := by rw [← hL3, x_nO (by omega)]; exact a2
  have a4 : L4.2 3 L.1 = some 7 := by rw [← hL4, x_nO (by omega)]; exact a3
  have b4 : L4.2 103 (L.1 + 1) = some 16 := by
    rw [← hL4, x_nO (by omega), ← hL3, x_nO (by omega), ← hL2, x_nO (by omega), ← hL1, ← n0]; exact x_nL
  have c4 : L4.2 104 (L.1 + 2) = some 16 := by
    rw [← hL4, x_nO (by omega), ← hL3, x_nO (by omega), ← hL2, ← n1]; exact x_nL
  have d4 : L4.2 100 (L.1 + 3) = some 5 := by
    rw [← hL4, x_nO (by omega), ← hL3, ← n2]; exact x_nL
  have e4 : L4.2 100 (L.1 + 4) = some 4 := by
    rw [← hL4, ← n3]; exact x_nL
  obtain ⟨V0, hV0⟩ : ∃ V0, g_nV V 3 L.1 df_A = V0 := ⟨_, rfl⟩
  obtain ⟨V1, hV1⟩ : ∃ V1, g_st (g_st (g_nV V0 103 L0.1 (fun _ => tR none)) 3 L.1 0 (tR (some L0.1))) 3 L.1 1 (tI 0) = V1 := ⟨_, rfl⟩
  obtain ⟨V2, hV2⟩ : ∃ V2, g_st (g_st (g_nV V1 104 L1.1 (fun _ => tR none)) 3 L.1 2 (tR (some L1.1))) 3 L.1 3 (tI 0) = V2 := ⟨_, rfl⟩
  obtain ⟨V3, hV3⟩ : ∃ V3, g_st (g_nV V2 100 L2.1 (fun _ => tI 0)) 3 L.1 4 (tR (some L2.1)) = V3 := ⟨_, rfl⟩
  obtain ⟨V4, hV4⟩ : ∃ V4, g_st (g_st (g_nV V3 100 L3.1 (fun _ => tI 0)) 3 L.1 5 (tR (some L3.1))) 3 L.1 6 (tI 0) = V4 := ⟨_, rfl⟩
  refine ⟨L4, V4, ?_, ⟨n4, a4, b4, c4, d4, e4, ?_, ?_, ?_, ?_, ?_, ?_, ?_, ?_, ?_⟩⟩
  · rw [hL0, hV0]
    simp only [D_A_init, g_new, q_bn, hL1, x_wr a1 (show 0 < 7 by omega), x_wr a1 (show 1 < 7 by omega), q_bd, hV1, hL2, x_wr a2 (show 2 < 7 by omega), x_wr a2 (show 3 < 7 by omega), hV2, hL3, x_wr a3 (show 4 < 7 by omega), hV3, hL4, x_wr a4 (show 5 < 7 by omega), x_wr a4 (show 6 < 7 by omega), hV4]
  · rw [← hV4, ← hV3, ← hV2, ← hV1]; simp [g_st, g_nV, n0]
  · rw [← hV4, ← hV3, ← hV2, ← hV1]; simp [g_st, g_nV]
  · rw [← hV4, ← hV3, ← hV2]; simp [g_st, g_nV, n1]
  · rw [← hV4, ← hV3, ← hV2]; simp [g_st, g_nV]
  · rw [← hV4, ← hV3]; simp [g_st, g_nV, n2]
  · rw [← hV4]; simp [g_st, n3]
  · rw [← hV4]; simp [g_st]
  · intro i; rw [← hV4, ← hV3]; simp [g_st, g_nV, n2, n3]
  · intro i; rw [← hV4]; simp [g_st, g_nV, n3]
def a_00 : vA := ((((0, 0), ((fun _ => 0), ((fun _ => 0), (fun _ => false)))), (((fun _ => 0), (fun _ => 0)), ((fun _ => 0), ((fun _ => 0), 0)))), ((((fun _ _ => 0), (fun _ _ => 0)), ((fun _ _ => false), ((fun _ _ => 0), (fun _ _ => 0)))), (((fun _ _ => 0), (fun _ _ => 0)), ((fun _ _ _ => 0), ((fun _ _ _ => false), (fun _ _ _ => 0))))))
def m_00 : vM := ((((fun _ => 0), ((fun _ => 0), (fun _ _ => 0))), ((fun _ _ => false), ((fun _ _ => 0), (fun _ => 0)))), (((fun _ => 0), ((fun _ _ => 0), (fun _ _ _ => 0))), (((fun _ _ => 0), (fun _ _ => 0)), ((fun _ _ _ => 0), (fun _ _ _ => false)))))
theorem cp_00 : Cp a_00 m_00 := by
  refine ⟨⟨by decide, by decide, ?_, ?_, ?_, ?_⟩, ⟨by decide, by decide, ?_, ?_, ?_⟩, ⟨rfl, rfl, ?_, ?_, ?_, ?_, ?_, ?_⟩, ?_, ⟨fun _ _ => rfl, fun _ _ => rfl, rfl, rfl⟩, rfl⟩
  · intro s hs; exact absurd hs (Nat.not_lt_zero s)
  · intro s hs; exact absurd hs (Nat.not_lt_zero s)
  · intro s i hs; exact absurd hs (Nat.not_lt_zero s)
  · intro s k hs; exact absurd hs (Nat.not_lt_zero s)
  · intro s; exact Nat.zero_le 6
  · intro s; exact Nat.zero_le 3
  · intro s i _ hi; exact absurd hi (Nat.not_lt_zero i)
  · intro f hf; exact absurd hf (Nat.not_lt_zero f)
  · intro f hf; exact absurd hf (Nat.not_lt_zero f)
  · intro f hf; exact absurd hf (Nat.not_lt_zero f)
  · intro f hf; exact absurd hf (Nat.not_lt_zero f)
  · intro f _ _; rfl
  · intro s _ _; exact ⟨rfl, rfl, rfl, rfl⟩
  · intro r hr; exact absurd hr (Nat.not_lt_zero r)
def D_start (n Ln : Nat) (xs : Nat → Int32) (L : gL) (V : gV) : Option Unit :=
  g_bn (g_new L V 3 7 df_A) fun L1 V2 =>
    g_b3 (D_A_init L.1 L1 V2) fun _ L5 V4 =>
    g_bn (g_new L5 V4 4 25 df_M) fun L6 V7 =>
    g_b3 (D_M_init L5.1 L6 V7) fun _ L10 V9 =>
    g_bn (g_new L10 V9 101 1 (fun _ => tJ 0)) fun L11 V12 =>
    D_law Ln xs L.1 L5.1 L10.1 n 0 L11 V12
theorem d_start {n Ln : Nat} {xs : Nat → Int32} (hn : Ln < 5 * n) (hL : Ln < 5000) (L : gL) (V : gV) : D_start n Ln xs L V = some () := by
  obtain ⟨L5, V4, e1, I⟩ := a_init (L := L) (V := V)
  obtain ⟨L10, V9, e2, Z, f1, f2⟩ := m_init (L := L5) (V := V4)
  have n5 := I.n
  have n10 := Z.n
  rw [n5] at n10 Z
  obtain ⟨b, hb⟩ : ∃ b, L.1 = b := ⟨_, rfl⟩
  rw [hb] at I n5 n10 Z
  have q10 : L10.1 = b + 26 := by omega
  have F1 : ∀ k a, a < b + 5 → (g_nL L10 101 1).2 k a = L5.2 k a := fun k a h => by rw [x_nO (by omega), f1 k a (by omega)]
  have F2 : ∀ k a i, a < b + 5 → g_nV V9 101 L10.1 (fun _ => tJ 0) k a i = V4 k a i := fun k a i h => by
    simp only [g_nV, show ¬ a = L10.1 by omega, and_false, if_false]; exact f2 k a i (by omega)
  have G1 : ∀ k a, a < b + 26 → (g_nL L10 101 1).2 k a = L10.2 k a := fun k a h => x_nO (by omega)
  have G2 : ∀ k a i, a < b + 26 → g_nV V9 101 L10.1 (fun _ => tJ 0) k a i = V9 k a i := fun k a i h => by
    simp only [g_nV, show ¬ a = L10.1 by omega, and_false, if_false]
  have ZS : ∀ q k n, 3 ≤ q → q < 23 → k = kq q → n = nq q → (g_nL L10 101 1).2 k (b + 3 + q) = some n := by
    intro q k n h1 h2 hk hn
    rw [G1 _ _ (by omega), hk, hn, show b + 3 + q = b + 5 + (q - 2) by omega]
    exact Z.sz q h1 (by omega)
  have ZV : ∀ q k i t, 3 ≤ q → q < 23 → k = kq q → t = zq (kq q) → g_nV V9 101 L10.1 (fun _ => tJ 0) k (b + 3 + q) i = t := by
    intro q k i t h1 h2 hk ht
    rw [G2 _ _ _ (by omega), hk, ht, show b + 3 + q = b + 5 + (q - 2) by omega]
    exact Z.v q i h1 (by omega)
  have R : RZ b a_00 m_00 0 (g_nL L10 101 1) (g_nV V9 101 L10.1 (fun _ => tJ 0)) := by
    refine ⟨⟨by rw [x_n1]; omega, ?_, ?_, ?_, ?_⟩, ?_, ?_⟩
    · intro f hf; exact absurd hf (Nat.not_lt_zero f)
    · intro f f' hf; exact absurd hf (Nat.not_lt_zero f)
    · intro s hs; exact absurd hs (Nat.not_lt_zero s)
    · intro s s' _ hs; exact absurd hs (Nat.not_lt_zero s')
    · intro p hp
      cases p using zP_cas
      case aP j => rw [F1 _ _ (by simp only [za]; omega)]; exact I.s3
      case aN j => rw [F1 _ _ (by simp only [za]; omega)]; exact I.s3
      case aI => rw [F1 _ _ (by simp only [za]; omega)]; exact I.s3
      case ac i => rw [F1 _ _ (by simp only [za]; omega)]; exact I.sc
      case aQ i => rw [F1 _ _ (by simp only [za]; omega)]; exact I.st
      case mo j => rw [G1 _ _ (by simp only [za]; omega)]; exact Z.s
      case mC j => rw [G1 _ _ (by simp only [za]; omega)]; exact Z.s
      case mP j => rw [G1 _ _ (by simp only [za]; omega)]; exact Z.s
      case mJ q s =>
        have h : q = 3 ∨ q = 4 ∨ q = 5 := hp.1
        rcases h with rfl | rfl | rfl <;> exact ZS _ _ _ (by omega) (by omega) rfl rfl
      case mZ q s =>
        have h : q = 6 ∨ q = 7 ∨ q = 21 ∨ q = 22 := hp.1
        rcases h with rfl | rfl | rfl | rfl <;> exact ZS _ _ _ (by omega) (by omega) rfl rfl
      case mI q s =>
        have h : q = 8 ∨ q = 17 ∨ q = 18 := hp.1
        rcases h with rfl | rfl | rfl <;> exact ZS _ _ _ (by omega) (by omega) rfl rfl
      case mc i => exact ZS 19 _ _ (by omega) (by omega) rfl rfl
      case mt i => exact ZS 20 _ _ (by omega) (by omega) rfl rfl
      case mN q s =>
        have h : q = 9 ∨ q = 12 := hp.1
        rcases h with rfl | rfl <;> exact ZS _ _ _ (by omega) (by omega) rfl rfl
      case mR q s i =>
        have h : q = 10 ∨ q = 11 := hp.1
        rcases h with rfl | rfl <;> exact ZS _ _ _ (by omega) (by omega) rfl rfl
      case mF s k => exact ZS 13 _ _ (by omega) (by omega) rfl rfl
      case mB s k => exact ZS 14 _ _ (by omega) (by omega) rfl rfl
      case mW s k i => exact ZS 15 _ _ (by omega) (by omega) rfl rfl
      case mH s k i => exact ZS 16 _ _ (by omega) (by omega) rfl rfl
      case ou => simp only [zk, za, zs]; rw [← q10]; exact x_nL
      case af f => exact absurd hp.1 (Nat.not_lt_zero f)
      case aZ s => exact absurd hp.1 (Nat.not_lt_zero s)
      case fZ f => exact absurd hp (Nat.not_lt_zero f)
      case fJ f => exact absurd hp (Nat.not_lt_zero f)
      case fI f => exact absurd hp (Nat.not_lt_zero f)
      all_goals exact absurd hp.1 (Nat.not_lt_zero _)
    · intro p hp
      cases p using zP_cas
      case aP j =>
        rw [F2 _ _ _ (by simp only [za]; omega)]
        have h : j = 0 ∨ j = 2 ∨ j = 4 ∨ j = 5 := hp
        rcases h with rfl | rfl | rfl | rfl
        · exact I.v0
        · exact I.v2
        · exact I.v4
        · exact I.v5
      case aN j =>
        rw [F2 _ _ _ (by simp only [za]; omega)]
        have h : j = 1 ∨ j = 3 := hp
        rcases h with rfl | rfl
        · exact I.v1
        · exact I.v3
      case aI => rw [F2 _ _ _ (by simp only [za]; omega)]; exact I.v6
      case ac i => rw [F2 _ _ _ (by simp only [za]; omega)]; exact I.vc i
      case aQ i => rw [F2 _ _ _ (by simp only [za]; omega)]; exact I.vt i
      case mo j =>
        rw [G2 _ _ _ (by simp only [za]; omega)]
        have h : j = 0 ∨ j = 23 ∨ j = 24 := hp
        exact Z.z j (by omega)
      case mC j =>
        rw [G2 _ _ _ (by simp only [za]; omega)]
        have h : j = 1 ∨ j = 2 := hp
        exact Z.z j (by omega)
      case mP j =>
        rw [G2 _ _ _ (by simp only [za]; omega)]
        have h : 3 ≤ j ∧ j < 23 := hp
        simp only [zk, za, zi, zc]
        rw [Z.p j h.1 (by omega), show b + 5 + (j - 2) = b + 3 + j by omega]
      case mJ q s =>
        have h : q = 3 ∨ q = 4 ∨ q = 5 := hp.1
        rcases h with rfl | rfl | rfl <;> exact ZV _ _ _ _ (by omega) (by omega) rfl rfl
      case mZ q s =>
        have h : q = 6 ∨ q = 7 ∨ q = 21 ∨ q = 22 := hp.1
        rcases h with rfl | rfl | rfl | rfl <;> exact ZV _ _ _ _ (by omega) (by omega) rfl rfl
      case mI q s =>
        have h : q = 8 ∨ q = 17 ∨ q = 18 := hp.1
        rcases h with rfl | rfl | rfl <;> exact ZV _ _ _ _ (by omega) (by omega) rfl rfl
      case mc i => exact ZV 19 _ _ _ (by omega) (by omega) rfl rfl
      case mt i => exact ZV 20 _ _ _ (by omega) (by omega) rfl rfl
      case mN q s =>
        have h : q = 9 ∨ q = 12 := hp.1
        rcases h with rfl | rfl <;> exact ZV _ _ _ _ (by omega) (by omega) rfl rfl
      case mR q s i =>
        have h : q = 10 ∨ q = 11 := hp.1
        rcases h with rfl | rfl <;> exact ZV _ _ _ _ (by omega) (by omega) rfl rfl
      case mF s k => exact ZV 13 _ _ _ (by omega) (by omega) rfl rfl
      case mB s k => exact ZV 14 _ _ _ (by omega) (by omega) rfl rfl
      case mW s k i => exact ZV 15 _ _ _ (by omega) (by omega) rfl rfl
      case mH s k i => exact ZV 16 _ _ _ (by omega) (by omega) rfl rfl
      case ou => simp only [zk, za, zi, zc]; rw [← q10]; simp [g_nV]
      case af f => exact absurd hp.1 (Nat.not_lt_zero f)
      case aZ s => exact absurd hp.1 (Nat.not_lt_zero s)
      case fZ f => exact absurd hp (Nat.not_lt_zero f)
      case fJ f => exact absurd hp (Nat.not_lt_zero f)
      case fI f => exact absurd hp (Nat.not_lt_zero f)
      all_goals exact absurd hp.1 (Nat.not_lt_zero _)
  have B : zB b (g_nL L10 101 1) := ⟨by rw [F1 _ _ (by omega)]; exact I.sf, by rw [F1 _ _ (by omega)]; exact I.ss⟩
  have law := l_law (b := b) (Ln := Ln) (xs := xs) (by omega) n 0 a_00 m_00 0 (g_nL L10 101 1) (g_nV V9 101 L10.1 (fun _ => tJ 0)) B R cp_00 (by omega) (by omega)
  rw [hb] at e1
  rw [n5] at e2
  unfold D_start
  simp only [g_new, q_bn, e1, q_b3, e2, hb, n5, q10]
  rw [q10, show nI (5 * 0) = (0 : Int32) from rfl] at law
  exact law
