def a_nt (A : vA) (n : Nat) (p q : Int64) : vA := { A with fst.fst.fst.snd := A.1.1.1.2 + 1, fst.fst.snd.snd.fst := up1 A.1.1.2.2.1 A.1.1.1.2 n, snd.fst.fst.fst := fun j s => if s = A.1.1.1.2 then (if j = 0 then p else q) else A.2.1.1.1 j s, snd.fst.fst.snd := fun j s => if s = A.1.1.1.2 then 0 else A.2.1.1.2 j s, snd.fst.snd.fst := fun j s => if s = A.1.1.1.2 then false else A.2.1.2.1 j s, snd.fst.snd.snd.fst := fun j s => if s = A.1.1.1.2 then (if j = 9 then 0 else -1) else A.2.1.2.2.1 j s, snd.fst.snd.snd.snd := fun s i => if s = A.1.1.1.2 then 0 else A.2.1.2.2.2 s i, snd.snd.fst.fst := fun s k => if s = A.1.1.1.2 then k else A.2.2.1.1 s k, snd.snd.fst.snd := fun s j => if s = A.1.1.1.2 then -1 else A.2.2.1.2 s j, snd.snd.snd.fst := fun x s j => if s = A.1.1.1.2 then 0 else A.2.2.2.1 x s j, snd.snd.snd.snd.fst := fun s j i => if s = A.1.1.1.2 then false else A.2.2.2.2.1 s j i, snd.snd.snd.snd.snd := fun s j i => if s = A.1.1.1.2 then 0 else A.2.2.2.2.2 s j i }
def m_nt (M : vM) (p q : Int64) : vM := { M with fst.fst.snd.snd := up2 (up2 M.1.1.2.2 4 (M.1.1.2.1 2) p) 5 (M.1.1.2.1 2) q, fst.fst.snd.fst := up1 M.1.1.2.1 2 (M.1.1.2.1 2 + 1) }
def zOf : zP → Option Nat
  | Sum.inl (Sum.inr (Sum.inl (Sum.inl (Sum.inr (_, s))))) => some s
  | Sum.inl (Sum.inr (Sum.inl (Sum.inr (Sum.inl (_, s))))) => some s
  | Sum.inl (Sum.inr (Sum.inl (Sum.inr (Sum.inr (_, s))))) => some s
  | Sum.inl (Sum.inr (Sum.inr (Sum.inl (Sum.inl (_, s))))) => some s
  | Sum.inl (Sum.inr (Sum.inr (Sum.inl (Sum.inr (_, s))))) => some s
  | Sum.inl (Sum.inr (Sum.inr (Sum.inr (Sum.inl (s, _))))) => some s
  | Sum.inl (Sum.inr (Sum.inr (Sum.inr (Sum.inr (Sum.inl (s, _)))))) => some s
  | Sum.inl (Sum.inr (Sum.inr (Sum.inr (Sum.inr (Sum.inr (_, s, _)))))) => some s
  | Sum.inr (Sum.inl (Sum.inl (Sum.inl (Sum.inl (s, _))))) => some s
  | Sum.inr (Sum.inl (Sum.inl (Sum.inl (Sum.inr (_, s, _))))) => some s
  | Sum.inr (Sum.inl (Sum.inl (Sum.inr (Sum.inl (s, _, _))))) => some s
  | Sum.inr (Sum.inl (Sum.inl (Sum.inr (Sum.inr (s, _, _))))) => some s
  | _ => none
theorem RZ.newt {b : Nat} {A : vA} {M : vM} {o v u : Int64} {L L' : gL} {V V' : gV} (R : RZ b A M o L V) (hn : L'.1 = L.1 + 15) (hL : ∀ k a, a < L.1 → L'.2 k a = L.2 k a) (hV : ∀ k a i, a < L.1 → ¬ (k = 104 ∧ a = b + 2 ∧ i = A.1.1.1.2) → ¬ (k = 3 ∧ a = b ∧ i = 3) → V' k a i = V k a i) (hA : L'.2 104 (b + 2) = some 16) (T : zT L' V' L.1 v u) (E : ∀ j, j < 4 → V' 105 (L.1 + 2) j = tR (some (L.1 + 3 + 3 * j)) ∧ zE L' V' (L.1 + 3 + 3 * j)) (va : V' 104 (b + 2) A.1.1.1.2 = tR (some L.1)) (vn : V' 3 b 3 = tI (nI (A.1.1.1.2 + 1))) : RZ b (a_nt A L.1 v u) M o L' V' := by
  have lay := R.lay
  have hstp : ∀ s, s < A.1.1.1.2 → (a_nt A L.1 v u).1.1.2.2.1 s = A.1.1.2.2.1 s := fun s hs => by
    simp only [a_nt, up1]; rw [if_neg (by omega)]
  have hnew : (a_nt A L.1 v u).1.1.2.2.1 A.1.1.1.2 = L.1 := by simp [a_nt, up1]
  have key : ∀ p, zv (a_nt A L.1 v u) p → (zv A p ∧ za b (a_nt A L.1 v u) p = za b A p ∧ ((zc b (a_nt A L.1 v u) M o p = zc b A M o p ∧ ¬ (zk p = 104 ∧ za b A p = b + 2 ∧ zi p = A.1.1.1.2) ∧ ¬ (zk p = 3 ∧ za b A p = b ∧ zi p = 3)) ∨ p = zP.aN 3)) ∨ p = zP.aZ A.1.1.1.2 ∨ zOf p = some A.1.1.1.2 := by
    intro p hp
    cases p using zP_cas
    case aZ s =>
      have hp : s < A.1.1.1.2 + 1 ∧ s < 16 := hp
      by_cases q : s = A.1.1.1.2
      · subst q; exact Or.inr (Or.inl rfl)
      · refine Or.inl ⟨⟨by omega, hp.2⟩, rfl, Or.inl ⟨?_, ?_, ?_⟩⟩
        · simp only [zc]; rw [hstp s (by omega)]
        · simp only [zk, za, zi]; omega
        · simp only [zk]; omega
    case aN j =>
      have hp : j = 1 ∨ j = 3 := hp
      by_cases q : j = 1
      · refine Or.inl ⟨hp, rfl, Or.inl ⟨?_, ?_, ?_⟩⟩
        · simp only [zc, if_pos q]; rfl
        · simp only [zk]; omega
        · simp only [zk, za, zi]; omega
      · have q : j = 3 := by omega
        subst q; exact Or.inl ⟨hp, rfl, Or.inr rfl⟩
    case aP j =>
      have hp : j = 0 ∨ j = 2 ∨ j = 4 ∨ j = 5 := hp
      refine Or.inl ⟨hp, rfl, Or.inl ⟨rfl, ?_, ?_⟩⟩
      · simp only [zk]; omega
      · simp only [zk, za, zi]; omega
    case aI => exact Or.inl ⟨hp, rfl, Or.inl ⟨rfl, by simp only [zk]; omega, by simp only [zk, za, zi]; omega⟩⟩
    case sJ j s =>
      have hp : s < A.1.1.1.2 + 1 ∧ _ := hp
      by_cases q : s = A.1.1.1.2
      · subst q; exact Or.inr (Or.inr rfl)
      · refine Or.inl ⟨⟨by omega, hp.2⟩, by simp only [za]; rw [hstp s (by omega)], Or.inl ⟨by simp only [zc, a_nt, if_neg q], by simp only [zk]; omega, by simp only [zk]; omega⟩⟩
    case sP j s =>
      have hp : s < A.1.1.1.2 + 1 ∧ _ := hp
      by_cases q : s = A.1.1.1.2
      · subst q; exact Or.inr (Or.inr rfl)
      · refine Or.inl ⟨⟨by omega, hp.2⟩, by simp only [za]; rw [hstp s (by omega)], Or.inl ⟨by simp only [zc]; rw [hstp s (by omega)], by simp only [zk]; omega, by simp only [zk]; omega⟩⟩
    case sN j s =>
      have hp : s < A.1.1.1.2 + 1 ∧ _ := hp
      by_cases q : s = A.1.1.1.2
      · subst q; exact Or.inr (Or.inr rfl)
      · refine Or.inl ⟨⟨by omega, hp.2⟩, by simp only [za]; rw [hstp s (by omega)], Or.inl ⟨by simp only [zc, a_nt, if_neg q], by simp only [zk]; omega, by simp only [zk]; omega⟩⟩
    case sZ j s =>
      have hp : s < A.1.1.1.2 + 1 ∧ _ := hp
      by_cases q : s = A.1.1.1.2
      · subst q; exact Or.inr (Or.inr rfl)
      · refine Or.inl ⟨⟨by omega, hp.2⟩, by simp only [za]; rw [hstp s (by omega)], Or.inl ⟨by simp only [zc, a_nt, if_neg q], by simp only [zk]; omega, by simp only [zk]; omega⟩⟩
    case sI j s =>
      have hp : s < A.1.1.1.2 + 1 ∧ _ := hp
      by_cases q : s = A.1.1.1.2
      · subst q; exact Or.inr (Or.inr rfl)
      · refine Or.inl ⟨⟨by omega, hp.2⟩, by simp only [za]; rw [hstp s (by omega)], Or.inl ⟨by simp only [zc, a_nt, if_neg q], by simp only [zk]; omega, by simp only [zk]; omega⟩⟩
    case sr s i =>
      have hp : s < A.1.1.1.2 + 1 ∧ _ := hp
      by_cases q : s = A.1.1.1.2
      · subst q; exact Or.inr (Or.inr rfl)
      · refine Or.inl ⟨⟨by omega, hp.2⟩, by simp only [za]; rw [hstp s (by omega)], Or.inl ⟨by simp only [zc, a_nt, if_neg q], by simp only [zk]; omega, by simp only [zk]; omega⟩⟩
    case se s k =>
      have hp : s < A.1.1.1.2 + 1 ∧ _ := hp
      by_cases q : s = A.1.1.1.2
      · subst q; exact Or.inr (Or.inr rfl)
      · refine Or.inl ⟨⟨by omega, hp.2⟩, by simp only [za]; rw [hstp s (by omega)], Or.inl ⟨by simp only [zc]; rw [hstp s (by omega)]; simp only [a_nt, if_neg q], by simp only [zk]; omega, by simp only [zk]; omega⟩⟩
    case eP x s j =>
      have hp : s < A.1.1.1.2 + 1 ∧ _ := hp
      by_cases q : s = A.1.1.1.2
      · subst q; exact Or.inr (Or.inr rfl)
      · refine Or.inl ⟨⟨by omega, hp.2⟩, by simp only [za]; rw [hstp s (by omega)], Or.inl ⟨by simp only [zc]; rw [hstp s (by omega)], by simp only [zk]; omega, by simp only [zk]; omega⟩⟩
    case eI s j =>
      have hp : s < A.1.1.1.2 + 1 ∧ _ := hp
      by_cases q : s = A.1.1.1.2
      · subst q; exact Or.inr (Or.inr rfl)
      · refine Or.inl ⟨⟨by omega, hp.2⟩, by simp only [za]; rw [hstp s (by omega)], Or.inl ⟨by simp only [zc, a_nt, if_neg q], by simp only [zk]; omega, by simp only [zk]; omega⟩⟩
    case eJ x s j =>
      have hp : s < A.1.1.1.2 + 1 ∧ _ := hp
      by_cases q : s = A.1.1.1.2
      · subst q; exact Or.inr (Or.inr rfl)
      · refine Or.inl ⟨⟨by omega, hp.2⟩, by simp only [za]; rw [hstp s (by omega)], Or.inl ⟨by simp only [zc, a_nt, if_neg q], by simp only [zk]; omega, by simp only [zk]; omega⟩⟩
    case eH s j i =>
      have hp : s < A.1.1.1.2 + 1 ∧ _ := hp
      by_cases q : s = A.1.1.1.2
      · subst q; exact Or.inr (Or.inr rfl)
      · refine Or.inl ⟨⟨by omega, hp.2⟩, by simp only [za]; rw [hstp s (by omega)], Or.inl ⟨by simp only [zc, a_nt, if_neg q], by simp only [zk]; omega, by simp only [zk]; omega⟩⟩
    case eW s j i =>
      have hp : s < A.1.1.1.2 + 1 ∧ _ := hp
      by_cases q : s = A.1.1.1.2
      · subst q; exact Or.inr (Or.inr rfl)
      · refine Or.inl ⟨⟨by omega, hp.2⟩, by simp only [za]; rw [hstp s (by omega)], Or.inl ⟨by simp only [zc, a_nt, if_neg q], by simp only [zk]; omega, by simp only [zk]; omega⟩⟩
    all_goals exact Or.inl ⟨hp, rfl, Or.inl ⟨rfl, by simp only [zk]; omega, by simp only [zk]; omega⟩⟩
  refine ⟨⟨?_, ?_, ?_, ?_, ?_⟩, ?_, ?_⟩
  · have := lay.low; omega
  · intro f hf; have := lay.src f hf; rw [hn]; exact ⟨this.1, by show A.1.1.2.1 f < _; omega⟩
  · exact lay.inj
  · intro s hs
    have hs : s < A.1.1.1.2 + 1 := hs
    have := lay.low
    by_cases q : s = A.1.1.1.2
    · rw [q, hnew]; omega
    · rw [hstp s (by omega)]; have := lay.stp s (by omega); omega
  · intro s s' h h'
    have h' : s' < A.1.1.1.2 + 1 := h'
    rw [hstp s (by omega)]
    by_cases q : s' = A.1.1.1.2
    · rw [q, hnew]; have := lay.stp s (by omega); omega
    · rw [hstp s' (by omega)]; exact lay.sep s s' h (by omega)
  · intro p hp
    rcases key p hp with ⟨h1, h2, _⟩ | h | h
    · rw [h2, hL _ _ (z_low lay h1)]; exact R.siz p h1
    · subst h; exact hA
    · cases p using zP_cas <;> simp only [zOf, reduceCtorEq, Option.some.injEq] at h
      case eH s j i =>
        subst h
        simp only [zk, za, zs, hnew]
        have := (E j hp.2.1).2.s1
        rw [show L.1 + 4 + 3 * j + 0 = L.1 + 3 + 3 * j + 1 by omega]; exact this
      case eW s j i =>
        subst h
        simp only [zk, za, zs, hnew]
        have := (E j hp.2.1).2.s2
        rw [show L.1 + 4 + 3 * j + 1 = L.1 + 3 + 3 * j + 2 by omega]; exact this
      all_goals subst h
      all_goals simp only [zk, za, zs, hnew]
      all_goals first
        | exact T.s0
        | exact T.s1
        | exact T.s2
        | exact (E _ hp.2).2.s0
        | exact (E _ hp.2.1).2.s0
  · intro p hp
    rcases key p hp with ⟨h1, h2, ⟨h3, h4, h5⟩ | h⟩ | h | h
    · rw [h2, hV _ _ _ (z_low lay h1) h4 h5, h3]; exact R.val p h1
    · subst h; exact vn
    · subst h; simp only [zk, za, zi, zc, hnew]; exact va
    · cases p using zP_cas <;> simp only [zOf, reduceCtorEq, Option.some.injEq] at h
      case sJ j s =>
        subst h
        simp only [zk, za, zi, zc, hnew]
        have hq : j = 0 ∨ j = 1 := hp.2
        rcases hq with rfl | rfl
        · rw [T.v0]; simp [a_nt]
        · rw [T.v1]; simp [a_nt]
      case sP j s =>
        subst h
        simp only [zk, za, zi, zc, hnew]
        have hq : j = 2 ∨ j = 4 := hp.2
        rcases hq with rfl | rfl
        · rw [T.v2]; rfl
        · rw [T.v4]; rfl
      case sN j s =>
        subst h
        simp only [zk, za, zi, zc, hnew]
        have hq : j = 3 ∨ j = 5 := hp.2
        rcases hq with rfl | rfl
        · rw [T.v3]; simp [a_nt, nI]
        · rw [T.v5]; simp [a_nt, nI]
      case sZ j s =>
        subst h
        simp only [zk, za, zi, zc, hnew]
        rw [T.vz j hp.2]; simp [a_nt, bI]
      case sI j s =>
        subst h
        simp only [zk, za, zi, zc, hnew]
        have hq : j = 9 ∨ j = 10 := hp.2
        rcases hq with rfl | rfl
        · rw [T.v9]; simp [a_nt]
        · rw [T.va]; simp [a_nt]
      case sr s i =>
        subst h
        simp only [zk, za, zi, zc, hnew]
        rw [T.r]; simp [a_nt, nI]
      case se s k =>
        subst h
        simp only [zk, za, zi, zc, hnew]
        rw [(E k hp.2).1]; simp [a_nt]
      case eP x s j =>
        subst h
        simp only [zk, za, zi, zc, hnew]
        have hq : x = 0 ∨ x = 1 := hp.2.2
        have z := (E j hp.2.1).2
        rcases hq with rfl | rfl
        · rw [z.v0]; congr 2; omega
        · rw [z.v1]; congr 2; omega
      case eI s j =>
        subst h
        simp only [zk, za, zi, zc, hnew]
        rw [(E j hp.2).2.v2]; simp [a_nt]
      case eJ x s j =>
        subst h
        simp only [zk, za, zi, zc, hnew]
        have hq : x = 3 ∨ x = 4 := hp.2.2
        have z := (E j hp.2.1).2
        rcases hq with rfl | rfl
        · rw [z.v3]; simp [a_nt]
        · rw [z.v4]; simp [a_nt]
      case eH s j i =>
        subst h
        simp only [zk, za, zi, zc, hnew]
        have z := (E j hp.2.1).2.h i
        rw [show L.1 + 4 + 3 * j + 0 = L.1 + 3 + 3 * j + 1 by omega, z]; simp [a_nt, bI]
      case eW s j i =>
        subst h
        simp only [zk, za, zi, zc, hnew]
        have z := (E j hp.2.1).2.w i
        rw [show L.1 + 4 + 3 * j + 1 = L.1 + 3 + 3 * j + 2 by omega, z]; simp [a_nt]
theorem cp_nt {A : vA} {M : vM} (C : Cp A M) (h : A.1.1.1.2 < 16) (n : Nat) (p q : Int64) : Cp (a_nt A n p q) (m_nt M p q) := by
  have k2 := C.F.k2
  have W := C.W
  have hh := C.F.hi A.1.1.1.2 (by omega) h
  refine ⟨⟨W.nf, by show A.1.1.1.2 + 1 ≤ 16; omega, ?_, ?_, ?_, ?_⟩, ⟨?_, ?_, C.V.nr, C.V.nc, C.V.rv⟩, ⟨?_, ?_, C.F.fz, ?_, C.F.fi, C.F.fc, C.F.f0, ?_⟩, ?_, ⟨C.N.c, C.N.t, C.N.u, C.N.l⟩, C.c4⟩
  · intro s hs
    have hs : s < A.1.1.1.2 + 1 := hs
    show (if s = A.1.1.1.2 then 0 else A.2.1.1.2 3 s) ≤ 6
    split
    · omega
    · exact W.nr s (by omega)
  · intro s hs
    have hs : s < A.1.1.1.2 + 1 := hs
    show (if s = A.1.1.1.2 then 0 else A.2.1.1.2 5 s) ≤ 3
    split
    · omega
    · exact W.nc s (by omega)
  · intro s i hs hi
    have hs : s < A.1.1.1.2 + 1 := hs
    have hi : i < (if s = A.1.1.1.2 then 0 else A.2.1.1.2 3 s) := hi
    by_cases g : s = A.1.1.1.2
    · rw [if_pos g] at hi; omega
    · rw [if_neg g] at hi
      have := W.rd s i (by omega) hi
      simp only [a_nt, if_neg g]; exact this
  · intro s k hs hk
    have hs : s < A.1.1.1.2 + 1 := hs
    show (if s = A.1.1.1.2 then k else A.2.2.1.1 s k) < 4
    split
    · exact hk
    · exact W.pm s k (by omega) hk
  · show up1 M.1.1.2.1 2 (M.1.1.2.1 2 + 1) 1 ≤ 16; simp only [up1]; exact C.V.nf
  · show up1 M.1.1.2.1 2 (M.1.1.2.1 2 + 1) 2 ≤ 16; simp only [up1, if_true]; omega
  · show up1 M.1.1.2.1 2 (M.1.1.2.1 2 + 1) 1 = A.1.1.1.1; simp only [up1]; exact C.F.k1
  · show up1 M.1.1.2.1 2 (M.1.1.2.1 2 + 1) 2 = A.1.1.1.2 + 1; simp only [up1, if_true]; omega
  · intro f hf
    show up2 (up2 M.1.1.2.2 4 (M.1.1.2.1 2) p) 5 (M.1.1.2.1 2) q 3 f = A.1.2.1.1 f
    simp only [up2]; exact C.F.fj f hf
  · intro s h1 h2
    have h1 : A.1.1.1.2 + 1 ≤ s := h1
    exact C.F.hi s (by omega) h2
  · intro r hr
    have hr : r < A.1.1.1.2 + 1 := hr
    by_cases g : r = A.1.1.1.2
    · subst g
      refine ⟨?_, ?_, ?_, ?_, ?_, ?_, ?_, ?_, ?_, ?_, ?_⟩
      · show up2 (up2 M.1.1.2.2 4 (M.1.1.2.1 2) p) 5 (M.1.1.2.1 2) q 4 A.1.1.1.2 = (a_nt A n p q).2.1.1.1 0 A.1.1.1.2
        rw [k2]; simp [up2, a_nt]
      · show up2 (up2 M.1.1.2.2 4 (M.1.1.2.1 2) p) 5 (M.1.1.2.1 2) q 5 A.1.1.1.2 = (a_nt A n p q).2.1.1.1 1 A.1.1.1.2
        rw [k2]; simp [up2, a_nt]
      · show M.2.1.2.1 9 A.1.1.1.2 = (a_nt A n p q).2.1.1.2 3 A.1.1.1.2
        rw [hh.1]; simp [a_nt]
      · show M.2.1.2.1 12 A.1.1.1.2 = (a_nt A n p q).2.1.1.2 5 A.1.1.1.2
        rw [hh.2.1]; simp [a_nt]
      · show M.1.2.1 7 A.1.1.1.2 = (a_nt A n p q).2.1.2.1 6 A.1.1.1.2
        rw [hh.2.2.1]; simp [a_nt]
      · show M.1.2.2.1 17 A.1.1.1.2 = (a_nt A n p q).2.1.2.2.1 9 A.1.1.1.2
        rw [hh.2.2.2]; simp [a_nt]
      · simp [a_nt]
      · intro i hi; simp [a_nt] at hi
      · intro i hi; simp [a_nt] at hi
      · intro k hk; simp [a_nt] at hk
      · intro k k' _ _ e; simpa [a_nt] using e
    · have h := C.S r (by omega)
      refine ⟨?_, ?_, ?_, ?_, ?_, ?_, ?_, ?_, ?_, ?_, ?_⟩
      · show up2 (up2 M.1.1.2.2 4 (M.1.1.2.1 2) p) 5 (M.1.1.2.1 2) q 4 r = (a_nt A n p q).2.1.1.1 0 r
        rw [k2]; simp [up2, a_nt, g]; exact h.j4
      · show up2 (up2 M.1.1.2.2 4 (M.1.1.2.1 2) p) 5 (M.1.1.2.1 2) q 5 r = (a_nt A n p q).2.1.1.1 1 r
        rw [k2]; simp [up2, a_nt, g]; exact h.j5
      · simp only [a_nt, if_neg g]; exact h.nr
      · simp only [a_nt, if_neg g]; exact h.nc
      · simp only [a_nt, if_neg g]; exact h.fo
      · simp only [a_nt, if_neg g]; exact h.st
      · simp only [a_nt, if_neg g]; exact h.ca
      · simp only [a_nt, if_neg g]; exact h.rd
      · simp only [a_nt, if_neg g]; exact h.ok
      · intro k hk
        have hk : k < A.2.1.1.2 5 r := by simpa [a_nt, g] using hk
        have e := h.en k hk
        refine ⟨?_, ?_, ?_, ?_, ?_⟩
        · simp only [a_nt, if_neg g]; exact e.f
        · simp only [a_nt, if_neg g]; exact e.y
        · simp only [a_nt, if_neg g]; exact e.c
        · simp only [a_nt, if_neg g]; exact e.w
        · simp only [a_nt, if_neg g]; exact e.h
      · simp only [a_nt, if_neg g]; exact h.inj
section
variable {b : Nat} {A : vA} {M : vM} {o : Int64} {L : gL} {V : gV}
theorem a_step (R : RZ b A M o L V) (B : zB b L) (v u : Int64) (h : A.1.1.1.2 < 16) (hu : 0 ≤ lg_cmp u 0) : ∃ L' V', D_A_step b v u L V = some (nI A.1.1.1.2, L', V') ∧ RZ b (a_nt A L.1 v u) M o L' V' ∧ zB b L' := by
  have lay := R.lay
  have low := lay.low
  have r1 : g_rI L V 3 b 3 = some (nI A.1.1.1.2) := R.r_aN (j := 3) (Or.inr rfl)
  obtain ⟨L8, V7, ei, n8, hL, hV, T, E⟩ := t_init (L := L) (V := V) (p := v) (q := u)
  have s3 : L8.2 3 b = some 7 := by rw [hL _ _ (by omega)]; exact R.z_3
  have s104 : L8.2 104 (b + 2) = some 16 := by rw [hL _ _ (by omega)]; exact B.2
  obtain ⟨V10, h10⟩ : ∃ V10, g_st V7 104 (b + 2) A.1.1.1.2 (tR (some L.1)) = V10 := ⟨_, rfl⟩
  have v10 : ∀ k a i, k ≠ 104 → V10 k a i = V7 k a i := by
    intro k a i hk
    rw [← h10]; simp only [g_st, hk, false_and, if_false]
  have r1b : g_rI L8 V10 3 b 3 = some (nI A.1.1.1.2) := by
    refine x_rI s3 (by omega) ?_
    rw [v10 _ _ _ (by omega), hV _ _ _ (by omega)]; exact R.val (zP.aN 3) (Or.inr rfl)
  obtain ⟨V12, h12⟩ : ∃ V12, g_st V10 3 b 3 (tI (nI (A.1.1.1.2 + 1))) = V12 := ⟨_, rfl⟩
  have v12 : ∀ k a i, k ≠ 3 → V12 k a i = V10 k a i := by
    intro k a i hk
    rw [← h12]; simp only [g_st, hk, false_and, if_false]
  have r1c : g_rI L8 V12 3 b 3 = some (nI (A.1.1.1.2 + 1)) := by
    refine x_rI s3 (by omega) ?_
    rw [← h12]; simp only [g_st, and_self, if_true]
  refine ⟨L8, V12, ?_, ?_, ⟨by rw [hL _ _ (by omega)]; exact B.1, s104⟩⟩
  · simp (disch := omega) only [D_A_step, r1, q_bd, nI_16le, show ¬ 16 ≤ A.1.1.1.2 by omega, if_false, hu, if_true, R.r_aP2, g_new, q_bn, ei, q_b3, T.s0, x_wa s104 h, h10, r1b, nI_1, x_wr s3 (show 3 < 7 by omega), h12, r1c, nI_p1]
  · refine R.newt n8 hL (fun k a i h1 h2 h3 => ?_) s104 ?_ (fun j hj => ⟨?_, ?_⟩) ?_ ?_
    · rw [← h12, ← h10]
      simp only [g_st, h2, h3, if_false]; exact hV k a i h1
    · exact T.keep (n := L.1 + 3) (by omega) (fun _ _ _ => rfl) (fun k x i _ g => by rw [v12 _ _ _ (by omega), v10 _ _ _ (by omega)])
    · rw [v12 _ _ _ (by omega), v10 _ _ _ (by omega)]; exact (E j hj).1
    · exact (E j hj).2.keep (n := L.1 + 15) (by omega) (fun _ _ _ => rfl) (fun k x i _ g => by rw [v12 _ _ _ (by omega), v10 _ _ _ (by omega)])
    · rw [v12 _ _ _ (by omega), ← h10]; simp [g_st]
    · rw [← h12]; simp [g_st]
variable {Ln : Nat} {xs : Nat → Int32} {v4 x1 x2 x3 x4 : Int32} {K : gL → gV → Option Unit}
theorem l_3 (R : RZ b A M o L V) (C : Cp A M) (B : zB b L) (g1 : g_sx Ln xs (v4 + 1) = some x1) (g2 : g_sx Ln xs (v4 + 2) = some x2) (g3 : g_sx Ln xs (v4 + 3) = some x3) (g4 : g_sx Ln xs (v4 + 4) = some x4) (hK : zGB b K) : D_L3 Ln xs b (b + 5) (b + 26) v4 K L V = some () := by
  have W := C.W
  have hn := W.ns
  have k2 := C.F.k2
  obtain ⟨v, hv⟩ : ∃ v : Int64, ((x1.toInt64 <<< ((32 : Int32).toInt64 &&& 63)) ||| (x2.toInt64 &&& (4294967295 : Int64))) = v := ⟨_, rfl⟩
  obtain ⟨u, hu⟩ : ∃ u : Int64, ((x3.toInt64 <<< ((32 : Int32).toInt64 &&& 63)) ||| (x4.toInt64 &&& (4294967295 : Int64))) = u := ⟨_, rfl⟩
  have r1 : g_rI L V 3 b 3 = some (nI A.1.1.1.2) := R.r_aN (j := 3) (Or.inr rfl)
  have c17 : (nI (M.1.1.2.1 2) = (16 : Int32)) = (M.1.1.2.1 2 = 16) := nI_eqp (c := 16) (by omega) (by omega)
  by_cases h : A.1.1.1.2 < 16
  · by_cases hc : 0 ≤ lg_cmp u 0
    · obtain ⟨L', V', e1, R1, B1⟩ := a_step R B v u h hc
      obtain ⟨Va, ea, Ra⟩ := R1.w_mo (j := 0) (Or.inl rfl) 0
      obtain ⟨Vb, eb, Rb⟩ := Ra.w_mJ (q := 4) (s := M.1.1.2.1 2) ⟨Or.inr (Or.inl rfl), by omega⟩ v
      obtain ⟨Vc, ec, Rc⟩ := Rb.w_mJ (q := 5) (s := M.1.1.2.1 2) ⟨Or.inr (Or.inr rfl), by omega⟩ u
      obtain ⟨Vd, ed, Rd⟩ := Rc.w_mC (j := 2) (Or.inr rfl) (M.1.1.2.1 2 + 1)
      have ra : g_rI L' Va 4 (b + 5) 2 = some (nI (M.1.1.2.1 2)) := Ra.r_mC (Or.inr rfl)
      have rb : g_rI L' Vb 4 (b + 5) 2 = some (nI (M.1.1.2.1 2)) := Rb.r_mC (Or.inr rfl)
      have rc : g_rI L' Vc 4 (b + 5) 2 = some (nI (M.1.1.2.1 2)) := Rc.r_mC (Or.inr rfl)
      have rd : g_rI L' Vd 4 (b + 5) 2 = some (nI (M.1.1.2.1 2 + 1)) := by
        rw [Rd.r_mC (Or.inr rfl)]; simp [up1]
      have e2 : D_M_step (b + 5) v u L' V' = some (nI (M.1.1.2.1 2), Vd) := by
        simp (disch := omega) only [D_M_step, ea, q_bd, ra, c17, show ¬ M.1.1.2.1 2 = 16 by omega, if_false, hc, if_true, Ra.r_mP, eb, Rb.r_mP, rb, ec, rc, nI_1, ed, rd, nI_p1]
      simp only [D_L3, g1, g2, g3, g4, q_bd, R.z_3, hv, hu, e1, q_b3, R1.z_4, e2, q_b2, k2, if_true]
      exact hK _ _ _ _ _ B1 Rd (cp_nt (C.o0 0) h L.1 v u)
    · obtain ⟨Va, ea, Ra⟩ := R.w_mo (j := 0) (Or.inl rfl) 0
      have ra : g_rI L Va 4 (b + 5) 2 = some (nI (M.1.1.2.1 2)) := Ra.r_mC (Or.inr rfl)
      have e1 : D_A_step b v u L V = some (-1, L, V) := by
        simp (disch := omega) only [D_A_step, r1, q_bd, nI_16le, show ¬ 16 ≤ A.1.1.1.2 by omega, if_false, hc]
      have e2 : D_M_step (b + 5) v u L V = some (-1, Va) := by
        simp only [D_M_step, ea, q_bd, ra, c17, show ¬ M.1.1.2.1 2 = 16 by omega, if_false, hc]
      simp only [D_L3, g1, g2, g3, g4, q_bd, R.z_3, hv, hu, e1, q_b3, R.z_4, e2, q_b2, if_true]
      exact hK _ _ _ _ _ B Ra (C.o0 0)
  · obtain ⟨Va, ea, Ra⟩ := R.w_mo (j := 0) (Or.inl rfl) 0
    have ra : g_rI L Va 4 (b + 5) 2 = some (nI (M.1.1.2.1 2)) := Ra.r_mC (Or.inr rfl)
    have e1 : D_A_step b v u L V = some (-1, L, V) := by
      simp (disch := omega) only [D_A_step, r1, q_bd, nI_16le, show 16 ≤ A.1.1.1.2 by omega, if_true]
    have e2 : D_M_step (b + 5) v u L V = some (-1, Va) := by
      simp only [D_M_step, ea, q_bd, ra, c17]
      rw [if_pos (show M.1.1.2.1 2 = 16 by omega)]
    simp only [D_L3, g1, g2, g3, g4, q_bd, R.z_3, hv, hu, e1, q_b3, R.z_4, e2, q_b2, if_true]
    exact hK _ _ _ _ _ B Ra (C.o0 0)
end
