def zE (L : gL) (V : gV) (a : Nat) : Prop := (L.2 0 a = some 5) ∧ (L.2 102 (a + 1) = some 6) ∧ (L.2 101 (a + 2) = some 6) ∧ (V 0 a 0 = tR (some (a + 1))) ∧ (V 0 a 1 = tR (some (a + 2))) ∧ (V 0 a 2 = tI (-1)) ∧ (V 0 a 3 = tJ 0) ∧ (V 0 a 4 = tJ 0) ∧ (∀ i, V 102 (a + 1) i = tI 0) ∧ (∀ i, V 101 (a + 2) i = tJ 0)
theorem zE.s0 {L : gL} {V : gV} {a : Nat} (z_h : zE L V a) : L.2 0 a = some 5 := z_h.1
theorem zE.s1 {L : gL} {V : gV} {a : Nat} (z_h : zE L V a) : L.2 102 (a + 1) = some 6 := z_h.2.1
theorem zE.s2 {L : gL} {V : gV} {a : Nat} (z_h : zE L V a) : L.2 101 (a + 2) = some 6 := z_h.2.2.1
theorem zE.v0 {L : gL} {V : gV} {a : Nat} (z_h : zE L V a) : V 0 a 0 = tR (some (a + 1)) := z_h.2.2.2.1
theorem zE.v1 {L : gL} {V : gV} {a : Nat} (z_h : zE L V a) : V 0 a 1 = tR (some (a + 2)) := z_h.2.2.2.2.1
theorem zE.v2 {L : gL} {V : gV} {a : Nat} (z_h : zE L V a) : V 0 a 2 = tI (-1) := z_h.2.2.2.2.2.1
theorem zE.v3 {L : gL} {V : gV} {a : Nat} (z_h : zE L V a) : V 0 a 3 = tJ 0 := z_h.2.2.2.2.2.2.1
theorem zE.v4 {L : gL} {V : gV} {a : Nat} (z_h : zE L V a) : V 0 a 4 = tJ 0 := z_h.2.2.2.2.2.2.2.1
theorem zE.h {L : gL} {V : gV} {a : Nat} (z_h : zE L V a) : ∀ i, V 102 (a + 1) i = tI 0 := z_h.2.2.2.2.2.2.2.2.1
theorem zE.w {L : gL} {V : gV} {a : Nat} (z_h : zE L V a) : ∀ i, V 101 (a + 2) i = tJ 0 := z_h.2.2.2.2.2.2.2.2.2
theorem zE.keep {L L' : gL} {V V' : gV} {a n : Nat} (h : zE L V a) (hn : a + 2 < n) (hL : ∀ k x, x < n → L'.2 k x = L.2 k x) (hV : ∀ k x i, x < n → (k = 0 ∨ k = 102 ∨ k = 101) → V' k x i = V k x i) : zE L' V' a :=
  ⟨by rw [hL _ _ (by omega)]; exact h.s0, by rw [hL _ _ (by omega)]; exact h.s1, by rw [hL _ _ (by omega)]; exact h.s2, by rw [hV _ _ _ (by omega) (by omega)]; exact h.v0, by rw [hV _ _ _ (by omega) (by omega)]; exact h.v1, by rw [hV _ _ _ (by omega) (by omega)]; exact h.v2, by rw [hV _ _ _ (by omega) (by omega)]; exact h.v3, by rw [hV _ _ _ (by omega) (by omega)]; exact h.v4, fun i => by rw [hV _ _ _ (by omega) (by omega)]; exact h.h i, fun i => by rw [hV _ _ _ (by omega) (by omega)]; exact h.w i⟩
theorem n_init {L : gL} {V : gV} : ∃ L' V', D_N_init L.1 (g_nL L 0 5) (g_nV V 0 L.1 df_N) = some ((), L', V') ∧ L'.1 = L.1 + 3 ∧ (∀ k a, a < L.1 → L'.2 k a = L.2 k a) ∧ (∀ k a i, a < L.1 → V' k a i = V k a i) ∧ zE L' V' L.1 := by
  obtain ⟨L0, hL0⟩ : ∃ L0, g_nL L 0 5 = L0 := ⟨_, rfl⟩
  obtain ⟨L1, hL1⟩ : ∃ L1, g_nL L0 102 6 = L1 := ⟨_, rfl⟩
  obtain ⟨L2, hL2⟩ : ∃ L2, g_nL L1 101 6 = L2 := ⟨_, rfl⟩
  have n0 : L0.1 = L.1 + 1 := by rw [← hL0]; rfl
  have n1 : L1.1 = L.1 + 2 := by rw [← hL1, x_n1, n0]
  have n2 : L2.1 = L.1 + 3 := by rw [← hL2, x_n1, n1]
  have a0 : L0.2 0 L.1 = some 5 := by rw [← hL0]; exact x_nL
  have a1 : L1.2 0 L.1 = some 5 := by rw [← hL1, x_nO (by omega)]; exact a0
  have a2 : L2.2 0 L.1 = some 5 := by rw [← hL2, x_nO (by omega)]; exact a1
  have b1 : L1.2 102 (L.1 + 1) = some 6 := by rw [← hL1, ← n0]; exact x_nL
  have b2 : L2.2 102 (L.1 + 1) = some 6 := by rw [← hL2, x_nO (by omega)]; exact b1
  have c2 : L2.2 101 (L.1 + 2) = some 6 := by rw [← hL2, ← n1]; exact x_nL
  obtain ⟨V0, hV0⟩ : ∃ V0, g_nV V 0 L.1 df_N = V0 := ⟨_, rfl⟩
  obtain ⟨V1, hV1⟩ : ∃ V1, g_st (g_nV V0 102 L0.1 (fun _ => tI 0)) 0 L.1 0 (tR (some L0.1)) = V1 := ⟨_, rfl⟩
  obtain ⟨V2, hV2⟩ : ∃ V2, g_st (g_st (g_st (g_st (g_nV V1 101 L1.1 (fun _ => tJ 0)) 0 L.1 1 (tR (some L1.1))) 0 L.1 2 (tI (-1))) 0 L.1 3 (tJ 0)) 0 L.1 4 (tJ 0) = V2 := ⟨_, rfl⟩
  refine ⟨L2, V2, ?_, n2, ?_, ?_, ⟨a2, b2, c2, ?_, ?_, ?_, ?_, ?_, ?_, ?_⟩⟩
  · rw [hL0, hV0]
    simp only [D_N_init, g_new, q_bn, hL1, x_wr a1 (show 0 < 5 by omega), hV1, q_bd, hL2, x_wr a2 (show 1 < 5 by omega), x_wr a2 (show 2 < 5 by omega), x_wr a2 (show 3 < 5 by omega), x_wr a2 (show 4 < 5 by omega), hV2]
  · intro k a h
    rw [← hL2, x_nO (by omega), ← hL1, x_nO (by omega), ← hL0, x_nO h]
  · intro k a i h
    rw [← hV2, ← hV1, ← hV0]
    simp only [g_st, g_nV, n0, n1, show ¬ a = L.1 by omega, show ¬ a = L.1 + 1 by omega, show ¬ a = L.1 + 2 by omega, and_false, false_and, if_false]
  · rw [← hV2, ← hV1]; simp [g_st, g_nV, n0]
  · rw [← hV2]; simp [g_st, n1]
  · rw [← hV2]; simp [g_st]
  · rw [← hV2]; simp [g_st]
  · rw [← hV2]; simp [g_st]
  · intro i; rw [← hV2, ← hV1]; simp [g_st, g_nV, n0]
  · intro i; rw [← hV2]; simp [g_st, g_nV, n1]
theorem t_ent {L : gL} {V : gV} {h0 e j : Nat} (hj : j < 4) (s2 : L.2 2 h0 = some 11) (l2 : h0 < L.1) (se : L.2 105 e = some 4) (le : e < L.1) (v4 : V 2 h0 4 = tR (some e)) : ∃ L' V', (∀ {β : Type} (K : gL → gV → Option β), (Option.bind (g_rR L V 2 h0 4) fun x16 => g_bn (g_new L V 0 5 df_N) fun L17 V18 => g_b3 (D_N_init L.1 L17 V18) fun _ L21 V20 => Option.bind x16 fun a22 => Option.bind ((L21).2 0 L.1) fun _ => Option.bind (g_wa L21 V20 105 a22 (nI j) (tR (some L.1))) fun V23 => K L21 V23) = K L' V') ∧ L'.1 = L.1 + 3 ∧ (∀ k a, a < L.1 → L'.2 k a = L.2 k a) ∧ (∀ k a i, a < L.1 → ¬ (k = 105 ∧ a = e ∧ i = j) → V' k a i = V k a i) ∧ zE L' V' L.1 ∧ V' 105 e j = tR (some L.1) := by
  obtain ⟨L', V', e1, n1, hL, hV, z⟩ := n_init (L := L) (V := V)
  have s105 : L'.2 105 e = some 4 := by rw [hL _ _ le]; exact se
  refine ⟨L', g_st V' 105 e j (tR (some L.1)), ?_, n1, hL, ?_, ?_, ?_⟩
  · intro β K
    simp only [x_rR s2 (show 4 < 11 by omega) v4, q_bd, g_new, q_bn, e1, q_b3, z.s0, x_wa s105 hj (by omega)]
  · intro k a i h1 h2
    simp only [g_st, h2, if_false]; exact hV k a i h1
  · exact z.keep (n := L.1 + 3) (by omega) (fun _ _ _ => rfl) (fun k x i _ q => by simp only [g_st, show ¬ k = 105 by omega, false_and, if_false])
  · simp [g_st]
def zT (L : gL) (V : gV) (a : Nat) (p q : Int64) : Prop := (L.2 2 a = some 11) ∧ (L.2 100 (a + 1) = some 6) ∧ (L.2 105 (a + 2) = some 4) ∧ (V 2 a 0 = tJ p) ∧ (V 2 a 1 = tJ q) ∧ (V 2 a 2 = tR (some (a + 1))) ∧ (V 2 a 3 = tI 0) ∧ (V 2 a 4 = tR (some (a + 2))) ∧ (V 2 a 5 = tI 0) ∧ (∀ i, i = 6 ∨ i = 7 ∨ i = 8 → V 2 a i = tI 0) ∧ (V 2 a 9 = tI 0) ∧ (V 2 a 10 = tI (-1)) ∧ (∀ i, V 100 (a + 1) i = tI 0)
theorem zT.s0 {L : gL} {V : gV} {a : Nat} {p q : Int64} (z_h : zT L V a p q) : L.2 2 a = some 11 := z_h.1
theorem zT.s1 {L : gL} {V : gV} {a : Nat} {p q : Int64} (z_h : zT L V a p q) : L.2 100 (a + 1) = some 6 := z_h.2.1
theorem zT.s2 {L : gL} {V : gV} {a : Nat} {p q : Int64} (z_h : zT L V a p q) : L.2 105 (a + 2) = some 4 := z_h.2.2.1
theorem zT.v0 {L : gL} {V : gV} {a : Nat} {p q : Int64} (z_h : zT L V a p q) : V 2 a 0 = tJ p := z_h.2.2.2.1
theorem zT.v1 {L : gL} {V : gV} {a : Nat} {p q : Int64} (z_h : zT L V a p q) : V 2 a 1 = tJ q := z_h.2.2.2.2.1
theorem zT.v2 {L : gL} {V : gV} {a : Nat} {p q : Int64} (z_h : zT L V a p q) : V 2 a 2 = tR (some (a + 1)) := z_h.2.2.2.2.2.1
theorem zT.v3 {L : gL} {V : gV} {a : Nat} {p q : Int64} (z_h : zT L V a p q) : V 2 a 3 = tI 0 := z_h.2.2.2.2.2.2.1
theorem zT.v4 {L : gL} {V : gV} {a : Nat} {p q : Int64} (z_h : zT L V a p q) : V 2 a 4 = tR (some (a + 2)) := z_h.2.2.2.2.2.2.2.1
theorem zT.v5 {L : gL} {V : gV} {a : Nat} {p q : Int64} (z_h : zT L V a p q) : V 2 a 5 = tI 0 := z_h.2.2.2.2.2.2.2.2.1
theorem zT.vz {L : gL} {V : gV} {a : Nat} {p q : Int64} (z_h : zT L V a p q) : ∀ i, i = 6 ∨ i = 7 ∨ i = 8 → V 2 a i = tI 0 := z_h.2.2.2.2.2.2.2.2.2.1
theorem zT.v9 {L : gL} {V : gV} {a : Nat} {p q : Int64} (z_h : zT L V a p q) : V 2 a 9 = tI 0 := z_h.2.2.2.2.2.2.2.2.2.2.1
theorem zT.va {L : gL} {V : gV} {a : Nat} {p q : Int64} (z_h : zT L V a p q) : V 2 a 10 = tI (-1) := z_h.2.2.2.2.2.2.2.2.2.2.2.1
theorem zT.r {L : gL} {V : gV} {a : Nat} {p q : Int64} (z_h : zT L V a p q) : ∀ i, V 100 (a + 1) i = tI 0 := z_h.2.2.2.2.2.2.2.2.2.2.2.2
theorem zT.keep {L L' : gL} {V V' : gV} {a n : Nat} {p q : Int64} (h : zT L V a p q) (hn : a + 2 < n) (hL : ∀ k x, x < n → L'.2 k x = L.2 k x) (hV : ∀ k x i, x < n → (k = 2 ∨ k = 100) → V' k x i = V k x i) : zT L' V' a p q := by
  have e : ∀ i, V' 2 a i = V 2 a i := fun i => hV _ _ _ (by omega) (by omega)
  refine ⟨by rw [hL _ _ (by omega)]; exact h.s0, by rw [hL _ _ (by omega)]; exact h.s1, by rw [hL _ _ (by omega)]; exact h.s2, by rw [e]; exact h.v0, by rw [e]; exact h.v1, by rw [e]; exact h.v2, by rw [e]; exact h.v3, by rw [e]; exact h.v4, by rw [e]; exact h.v5, fun i hi => by rw [e]; exact h.vz i hi, by rw [e]; exact h.v9, by rw [e]; exact h.va, fun i => by rw [hV _ _ _ (by omega) (by omega)]; exact h.r i⟩
theorem t_init {L : gL} {V : gV} {p q : Int64} : ∃ L' V', D_T_init L.1 p q (g_nL L 2 11) (g_nV V 2 L.1 df_T) = some ((), L', V') ∧ L'.1 = L.1 + 15 ∧ (∀ k a, a < L.1 → L'.2 k a = L.2 k a) ∧ (∀ k a i, a < L.1 → V' k a i = V k a i) ∧ zT L' V' L.1 p q ∧ (∀ j, j < 4 → V' 105 (L.1 + 2) j = tR (some (L.1 + 3 + 3 * j)) ∧ zE L' V' (L.1 + 3 + 3 * j)) := by
  obtain ⟨L0, hL0⟩ : ∃ L0, g_nL L 2 11 = L0 := ⟨_, rfl⟩
  obtain ⟨L1, hL1⟩ : ∃ L1, g_nL L0 100 6 = L1 := ⟨_, rfl⟩
  obtain ⟨L5, hL5⟩ : ∃ L5, g_nL L1 105 4 = L5 := ⟨_, rfl⟩
  have n0 : L0.1 = L.1 + 1 := by rw [← hL0]; rfl
  have n1 : L1.1 = L.1 + 2 := by rw [← hL1, x_n1, n0]
  have n5 : L5.1 = L.1 + 3 := by rw [← hL5, x_n1, n1]
  have a0 : L0.2 2 L.1 = some 11 := by rw [← hL0]; exact x_nL
  have a1 : L1.2 2 L.1 = some 11 := by rw [← hL1, x_nO (by omega)]; exact a0
  have a5 : L5.2 2 L.1 = some 11 := by rw [← hL5, x_nO (by omega)]; exact a1
  have b1 : L1.2 100 (L.1 + 1) = some 6 := by rw [← hL1, ← n0]; exact x_nL
  have b5 : L5.2 100 (L.1 + 1) = some 6 := by rw [← hL5, x_nO (by omega)]; exact b1
  have c5 : L5.2 105 (L.1 + 2) = some 4 := by rw [← hL5, ← n1]; exact x_nL
  obtain ⟨V0, hV0⟩ : ∃ V0, g_nV V 2 L.1 df_T = V0 := ⟨_, rfl⟩
  obtain ⟨V4, hV4⟩ : ∃ V4, g_st (g_st (g_nV V0 100 L0.1 (fun _ => tI 0)) 2 L.1 2 (tR (some L0.1))) 2 L.1 3 (tI 0) = V4 := ⟨_, rfl⟩
  obtain ⟨V15, hV15⟩ : ∃ V15, g_st (g_st (g_st (g_st (g_st (g_st (g_st (g_st (g_st (g_nV V4 105 L1.1 (fun _ => tR none)) 2 L.1 4 (tR (some L1.1))) 2 L.1 5 (tI 0)) 2 L.1 6 (tI 0)) 2 L.1 7 (tI 0)) 2 L.1 8 (tI 0)) 2 L.1 9 (tI 0)) 2 L.1 10 (tI (-1))) 2 L.1 0 (tJ p)) 2 L.1 1 (tJ q) = V15 := ⟨_, rfl⟩
  have T5 : zT L5 V15 L.1 p q := by
    refine ⟨a5, b5, c5, ?_, ?_, ?_, ?_, ?_, ?_, ?_, ?_, ?_, ?_⟩
    · rw [← hV15]; simp [g_st]
    · rw [← hV15]; simp [g_st]
    · rw [← hV15, ← hV4]; simp [g_st, g_nV, n0]
    · rw [← hV15, ← hV4]; simp [g_st, g_nV]
    · rw [← hV15]; simp [g_st, n1]
    · rw [← hV15]; simp [g_st]
    · intro i hi
      rw [← hV15]
      rcases hi with rfl | rfl | rfl <;> simp [g_st]
    · rw [← hV15]; simp [g_st]
    · rw [← hV15]; simp [g_st]
    · intro i; rw [← hV15, ← hV4]; simp [g_st, g_nV, n0]
  have F5 : ∀ k a i, a < L.1 → V15 k a i = V k a i := by
    intro k a i h
    rw [← hV15, ← hV4, ← hV0]
    simp only [g_st, g_nV, n0, n1, show ¬ a = L.1 by omega, show ¬ a = L.1 + 1 by omega, show ¬ a = L.1 + 2 by omega, and_false, false_and, if_false]
  have G5 : ∀ k a, a < L.1 → L5.2 k a = L.2 k a := by
    intro k a h
    rw [← hL5, x_nO (by omega), ← hL1, x_nO (by omega), ← hL0, x_nO h]
  obtain ⟨L21, V23, k1, m1, p1, q1, z1, w1⟩ := t_ent (L := L5) (V := V15) (h0 := L.1) (e := L.1 + 2) (j := 0) (by omega) T5.s0 (by omega) T5.s2 (by omega) T5.v4
  have T21 : zT L21 V23 L.1 p q := T5.keep (n := L.1 + 3) (by omega) (fun k x h => p1 k x (by omega)) (fun k x i h g => q1 k x i (by omega) (by omega))
  obtain ⟨L29, V31, k2, m2, p2, q2, z2, w2⟩ := t_ent (L := L21) (V := V23) (h0 := L.1) (e := L.1 + 2) (j := 1) (by omega) T21.s0 (by omega) T21.s2 (by omega) T21.v4
  have T29 : zT L29 V31 L.1 p q := T21.keep (n := L.1 + 3) (by omega) (fun k x h => p2 k x (by omega)) (fun k x i h g => q2 k x i (by omega) (by omega))
  obtain ⟨L37, V39, k3, m3, p3, q3, z3, w3⟩ := t_ent (L := L29) (V := V31) (h0 := L.1) (e := L.1 + 2) (j := 2) (by omega) T29.s0 (by omega) T29.s2 (by omega) T29.v4
  have T37 : zT L37 V39 L.1 p q := T29.keep (n := L.1 + 3) (by omega) (fun k x h => p3 k x (by omega)) (fun k x i h g => q3 k x i (by omega) (by omega))
  obtain ⟨L45, V47, k4, m4, p4, q4, z4, w4⟩ := t_ent (L := L37) (V := V39) (h0 := L.1) (e := L.1 + 2) (j := 3) (by omega) T37.s0 (by omega) T37.s2 (by omega) T37.v4
  have T45 : zT L45 V47 L.1 p q := T37.keep (n := L.1 + 3) (by omega) (fun k x h => p4 k x (by omega)) (fun k x i h g => q4 k x i (by omega) (by omega))
  refine ⟨L45, V47, ?_, by omega, ?_, ?_, T45, ?_⟩
  · rw [hL0, hV0]
    have e15 : D_T_init L.1 p q L0 V0 = (Option.bind (g_rR L5 V15 2 L.1 4) fun x16 => g_bn (g_new L5 V15 0 5 df_N) fun L17 V18 => g_b3 (D_N_init L5.1 L17 V18) fun r19 L21 V20 => Option.bind x16 fun a22 => Option.bind ((L21).2 0 L5.1) fun n51 => Option.bind (g_wa L21 V20 105 a22 (nI 0) (tR (some L5.1))) fun V23 =>
        Option.bind (g_rR L21 V23 2 L.1 4) fun x24 => g_bn (g_new L21 V23 0 5 df_N) fun L25 V26 => g_b3 (D_N_init L21.1 L25 V26) fun r27 L29 V28 => Option.bind x24 fun a30 => Option.bind ((L29).2 0 L21.1) fun n50 => Option.bind (g_wa L29 V28 105 a30 (nI 1) (tR (some L21.1))) fun V31 =>
        Option.bind (g_rR L29 V31 2 L.1 4) fun x32 => g_bn (g_new L29 V31 0 5 df_N) fun L33 V34 => g_b3 (D_N_init L29.1 L33 V34) fun r35 L37 V36 => Option.bind x32 fun a38 => Option.bind ((L37).2 0 L29.1) fun n49 => Option.bind (g_wa L37 V36 105 a38 (nI 2) (tR (some L29.1))) fun V39 =>
        Option.bind (g_rR L37 V39 2 L.1 4) fun x40 => g_bn (g_new L37 V39 0 5 df_N) fun L41 V42 => g_b3 (D_N_init L37.1 L41 V42) fun r43 L45 V44 => Option.bind x40 fun a46 => Option.bind ((L45).2 0 L37.1) fun n48 => Option.bind (g_wa L45 V44 105 a46 (nI 3) (tR (some L37.1))) fun V47 => some ((), L45, V47)) := by
      simp only [D_T_init, g_new, q_bn, hL1, x_wr a1 (show 2 < 11 by omega), x_wr a1 (show 3 < 11 by omega), q_bd, hV4, hL5, x_wr a5 (show 4 < 11 by omega), x_wr a5 (show 5 < 11 by omega), x_wr a5 (show 6 < 11 by omega), x_wr a5 (show 7 < 11 by omega), x_wr a5 (show 8 < 11 by omega), x_wr a5 (show 9 < 11 by omega), x_wr a5 (show 10 < 11 by omega), x_wr a5 (show 0 < 11 by omega), x_wr a5 (show 1 < 11 by omega), hV15]
      rfl
    rw [e15, k1, k2, k3, k4]
  · intro k a h
    rw [p4 _ _ (by omega), p3 _ _ (by omega), p2 _ _ (by omega), p1 _ _ (by omega), G5 k a h]
  · intro k a i h
    rw [q4 _ _ _ (by omega) (by omega), q3 _ _ _ (by omega) (by omega), q2 _ _ _ (by omega) (by omega), q1 _ _ _ (by omega) (by omega), F5 k a i h]
  · have f1 : zE L45 V47 (L.1 + 3) := by
      rw [← n5]
      exact ((z1.keep (n := L.1 + 6) (by omega) (fun k x h => p2 k x (by omega)) (fun k x i h g => q2 k x i (by omega) (by omega))).keep (n := L.1 + 6) (by omega) (fun k x h => p3 k x (by omega)) (fun k x i h g => q3 k x i (by omega) (by omega))).keep (n := L.1 + 6) (by omega) (fun k x h => p4 k x (by omega)) (fun k x i h g => q4 k x i (by omega) (by omega))
    have f2 : zE L45 V47 (L.1 + 6) := by
      rw [show L.1 + 6 = L21.1 by omega]
      exact ((z2.keep (n := L.1 + 9) (by omega) (fun k x h => p3 k x (by omega)) (fun k x i h g => q3 k x i (by omega) (by omega))).keep (n := L.1 + 9) (by omega) (fun k x h => p4 k x (by omega)) (fun k x i h g => q4 k x i (by omega) (by omega)))
    have f3 : zE L45 V47 (L.1 + 9) := by
      rw [show L.1 + 9 = L29.1 by omega]
      exact z3.keep (n := L.1 + 12) (by omega) (fun k x h => p4 k x (by omega)) (fun k x i h g => q4 k x i (by omega) (by omega))
    have f4 : zE L45 V47 (L.1 + 12) := by
      rw [show L.1 + 12 = L37.1 by omega]; exact z4
    intro j hj
    have hj' : j = 0 ∨ j = 1 ∨ j = 2 ∨ j = 3 := by omega
    rcases hj' with rfl | rfl | rfl | rfl
    · refine ⟨?_, f1⟩
      rw [q4 _ _ _ (by omega) (by omega), q3 _ _ _ (by omega) (by omega), q2 _ _ _ (by omega) (by omega), w1, n5]
    · refine ⟨?_, f2⟩
      rw [q4 _ _ _ (by omega) (by omega), q3 _ _ _ (by omega) (by omega), w2, show L21.1 = L.1 + 3 + 3 * 1 by omega]
    · refine ⟨?_, f3⟩
      rw [q4 _ _ _ (by omega) (by omega), w3, show L29.1 = L.1 + 3 + 3 * 2 by omega]
    · refine ⟨?_, f4⟩
      rw [w4, show L37.1 = L.1 + 3 + 3 * 3 by omega]
