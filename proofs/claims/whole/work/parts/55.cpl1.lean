def z_cd (r p : Nat) : Nat := if p = 2 then r else 16 + 2 * r + p
def Ce (A : vA) (M : vM) (s k : Nat) : Prop := (A.2.2.1.2 s (A.2.2.1.1 s k) = M.2.2.1.1 s k) ∧ (A.2.2.2.1 4 s (A.2.2.1.1 s k) = M.2.2.1.2 s k) ∧ (A.2.2.2.1 3 s (A.2.2.1.1 s k) = M.2.2.1.2 s k &&& A.2.1.1.1 0 s) ∧ (∀ i, i < A.2.1.1.2 3 s → A.2.2.2.2.2 s (A.2.2.1.1 s k) i = M.2.2.2.1 s k i) ∧ (∀ i, i < A.2.1.1.2 3 s → A.2.2.2.2.1 s (A.2.2.1.1 s k) i = M.2.2.2.2 s k i)
theorem Ce.f {A : vA} {M : vM} {s k : Nat} (z_h : Ce A M s k) : A.2.2.1.2 s (A.2.2.1.1 s k) = M.2.2.1.1 s k := z_h.1
theorem Ce.y {A : vA} {M : vM} {s k : Nat} (z_h : Ce A M s k) : A.2.2.2.1 4 s (A.2.2.1.1 s k) = M.2.2.1.2 s k := z_h.2.1
theorem Ce.c {A : vA} {M : vM} {s k : Nat} (z_h : Ce A M s k) : A.2.2.2.1 3 s (A.2.2.1.1 s k) = M.2.2.1.2 s k &&& A.2.1.1.1 0 s := z_h.2.2.1
theorem Ce.w {A : vA} {M : vM} {s k : Nat} (z_h : Ce A M s k) : ∀ i, i < A.2.1.1.2 3 s → A.2.2.2.2.2 s (A.2.2.1.1 s k) i = M.2.2.2.1 s k i := z_h.2.2.2.1
theorem Ce.h {A : vA} {M : vM} {s k : Nat} (z_h : Ce A M s k) : ∀ i, i < A.2.1.1.2 3 s → A.2.2.2.2.1 s (A.2.2.1.1 s k) i = M.2.2.2.2 s k i := z_h.2.2.2.2
def Cs (A : vA) (M : vM) (s : Nat) : Prop := (M.1.1.2.2 4 s = A.2.1.1.1 0 s) ∧ (M.1.1.2.2 5 s = A.2.1.1.1 1 s) ∧ (M.2.1.2.1 9 s = A.2.1.1.2 3 s) ∧ (M.2.1.2.1 12 s = A.2.1.1.2 5 s) ∧ (M.1.2.1 7 s = A.2.1.2.1 6 s) ∧ (M.1.2.2.1 17 s = A.2.1.2.2.1 9 s) ∧ (A.2.1.2.2.1 10 s = if A.2.1.2.2.1 9 s = 2 ∨ A.2.1.2.2.1 9 s = 3 then M.1.2.2.1 18 s else -1) ∧ (∀ i, i < A.2.1.1.2 3 s → A.2.1.2.2.2 s i = z_cd (M.2.1.2.2 10 s i) (M.2.1.2.2 11 s i)) ∧ (∀ i, i < A.2.1.1.2 3 s → (M.2.1.2.2 11 s i = 2 ∧ M.2.1.2.2 10 s i < A.1.1.1.1) ∨ (M.2.1.2.2 11 s i < 2 ∧ M.2.1.2.2 10 s i < s)) ∧ (∀ k, k < A.2.1.1.2 5 s → Ce A M s k) ∧ (∀ k k', k < 4 → k' < 4 → A.2.2.1.1 s k = A.2.2.1.1 s k' → k = k')
theorem Cs.j4 {A : vA} {M : vM} {s : Nat} (z_h : Cs A M s) : M.1.1.2.2 4 s = A.2.1.1.1 0 s := z_h.1
theorem Cs.j5 {A : vA} {M : vM} {s : Nat} (z_h : Cs A M s) : M.1.1.2.2 5 s = A.2.1.1.1 1 s := z_h.2.1
theorem Cs.nr {A : vA} {M : vM} {s : Nat} (z_h : Cs A M s) : M.2.1.2.1 9 s = A.2.1.1.2 3 s := z_h.2.2.1
theorem Cs.nc {A : vA} {M : vM} {s : Nat} (z_h : Cs A M s) : M.2.1.2.1 12 s = A.2.1.1.2 5 s := z_h.2.2.2.1
theorem Cs.fo {A : vA} {M : vM} {s : Nat} (z_h : Cs A M s) : M.1.2.1 7 s = A.2.1.2.1 6 s := z_h.2.2.2.2.1
theorem Cs.st {A : vA} {M : vM} {s : Nat} (z_h : Cs A M s) : M.1.2.2.1 17 s = A.2.1.2.2.1 9 s := z_h.2.2.2.2.2.1
theorem Cs.ca {A : vA} {M : vM} {s : Nat} (z_h : Cs A M s) : A.2.1.2.2.1 10 s = if A.2.1.2.2.1 9 s = 2 ∨ A.2.1.2.2.1 9 s = 3 then M.1.2.2.1 18 s else -1 := z_h.2.2.2.2.2.2.1
theorem Cs.rd {A : vA} {M : vM} {s : Nat} (z_h : Cs A M s) : ∀ i, i < A.2.1.1.2 3 s → A.2.1.2.2.2 s i = z_cd (M.2.1.2.2 10 s i) (M.2.1.2.2 11 s i) := z_h.2.2.2.2.2.2.2.1
theorem Cs.ok {A : vA} {M : vM} {s : Nat} (z_h : Cs A M s) : ∀ i, i < A.2.1.1.2 3 s → (M.2.1.2.2 11 s i = 2 ∧ M.2.1.2.2 10 s i < A.1.1.1.1) ∨ (M.2.1.2.2 11 s i < 2 ∧ M.2.1.2.2 10 s i < s) := z_h.2.2.2.2.2.2.2.2.1
theorem Cs.en {A : vA} {M : vM} {s : Nat} (z_h : Cs A M s) : ∀ k, k < A.2.1.1.2 5 s → Ce A M s k := z_h.2.2.2.2.2.2.2.2.2.1
theorem Cs.inj {A : vA} {M : vM} {s : Nat} (z_h : Cs A M s) : ∀ k k', k < 4 → k' < 4 → A.2.2.1.1 s k = A.2.2.1.1 s k' → k = k' := z_h.2.2.2.2.2.2.2.2.2.2
def Cf (A : vA) (M : vM) : Prop := (M.1.1.2.1 1 = A.1.1.1.1) ∧ (M.1.1.2.1 2 = A.1.1.1.2) ∧ (∀ f, f < A.1.1.1.1 → M.1.2.1 6 f = A.1.1.2.2.2 f) ∧ (∀ f, f < A.1.1.1.1 → M.1.1.2.2 3 f = A.1.2.1.1 f) ∧ (∀ f, f < A.1.1.1.1 → M.1.2.2.1 8 f = A.1.2.1.2 f) ∧ (∀ f, f < A.1.1.1.1 → A.1.1.2.2.2 f = false → A.1.2.1.1 f = 0) ∧ (∀ f, A.1.1.1.1 ≤ f → f < 16 → M.1.2.2.1 8 f = 0) ∧ (∀ s, A.1.1.1.2 ≤ s → s < 16 → M.2.1.2.1 9 s = 0 ∧ M.2.1.2.1 12 s = 0 ∧ M.1.2.1 7 s = false ∧ M.1.2.2.1 17 s = 0)
theorem Cf.k1 {A : vA} {M : vM} (z_h : Cf A M) : M.1.1.2.1 1 = A.1.1.1.1 := z_h.1
theorem Cf.k2 {A : vA} {M : vM} (z_h : Cf A M) : M.1.1.2.1 2 = A.1.1.1.2 := z_h.2.1
theorem Cf.fz {A : vA} {M : vM} (z_h : Cf A M) : ∀ f, f < A.1.1.1.1 → M.1.2.1 6 f = A.1.1.2.2.2 f := z_h.2.2.1
theorem Cf.fj {A : vA} {M : vM} (z_h : Cf A M) : ∀ f, f < A.1.1.1.1 → M.1.1.2.2 3 f = A.1.2.1.1 f := z_h.2.2.2.1
theorem Cf.fi {A : vA} {M : vM} (z_h : Cf A M) : ∀ f, f < A.1.1.1.1 → M.1.2.2.1 8 f = A.1.2.1.2 f := z_h.2.2.2.2.1
theorem Cf.fc {A : vA} {M : vM} (z_h : Cf A M) : ∀ f, f < A.1.1.1.1 → A.1.1.2.2.2 f = false → A.1.2.1.1 f = 0 := z_h.2.2.2.2.2.1
theorem Cf.f0 {A : vA} {M : vM} (z_h : Cf A M) : ∀ f, A.1.1.1.1 ≤ f → f < 16 → M.1.2.2.1 8 f = 0 := z_h.2.2.2.2.2.2.1
theorem Cf.hi {A : vA} {M : vM} (z_h : Cf A M) : ∀ s, A.1.1.1.2 ≤ s → s < 16 → M.2.1.2.1 9 s = 0 ∧ M.2.1.2.1 12 s = 0 ∧ M.1.2.1 7 s = false ∧ M.1.2.2.1 17 s = 0 := z_h.2.2.2.2.2.2.2
def Cn (A : vA) (M : vM) : Prop := (∀ i, i < 4 → M.1.2.2.2 i = A.1.2.2.1 i) ∧ (∀ i, i < 4 → M.2.1.1 i = A.1.2.2.2.1 i) ∧ (M.1.1.1 23 = A.1.2.2.2.2) ∧ (M.1.1.1 24 = A.1.2.2.2.1 0 + A.1.2.2.2.1 1 + A.1.2.2.2.1 2 + A.1.2.2.2.1 3)
theorem Cn.c {A : vA} {M : vM} (z_h : Cn A M) : ∀ i, i < 4 → M.1.2.2.2 i = A.1.2.2.1 i := z_h.1
theorem Cn.t {A : vA} {M : vM} (z_h : Cn A M) : ∀ i, i < 4 → M.2.1.1 i = A.1.2.2.2.1 i := z_h.2.1
theorem Cn.u {A : vA} {M : vM} (z_h : Cn A M) : M.1.1.1 23 = A.1.2.2.2.2 := z_h.2.2.1
theorem Cn.l {A : vA} {M : vM} (z_h : Cn A M) : M.1.1.1 24 = A.1.2.2.2.1 0 + A.1.2.2.2.1 1 + A.1.2.2.2.1 2 + A.1.2.2.2.1 3 := z_h.2.2.2
def mS (M M' : vM) (s : Nat) : Prop := (M'.1.1.2.1 = M.1.1.2.1) ∧ (M'.1.1.2.2 = M.1.1.2.2) ∧ (M'.2.1.2.2 = M.2.1.2.2) ∧ (M'.2.1.2.1 9 = M.2.1.2.1 9) ∧ (M'.1.2.1 6 = M.1.2.1 6) ∧ (M'.1.2.1 21 = M.1.2.1 21) ∧ (M'.1.2.1 22 = M.1.2.1 22) ∧ (M'.1.2.2.1 8 = M.1.2.2.1 8) ∧ (M'.1.2.2.2 4 = M.1.2.2.2 4) ∧ (∀ r, r ≠ s → M'.2.1.2.1 12 r = M.2.1.2.1 12 r) ∧ (∀ r, r ≠ s → M'.1.2.1 7 r = M.1.2.1 7 r) ∧ (∀ r, r ≠ s → M'.1.2.2.1 17 r = M.1.2.2.1 17 r) ∧ (∀ r, r ≠ s → M'.1.2.2.1 18 r = M.1.2.2.1 18 r) ∧ (∀ r, r ≠ s → M'.2.2.1.1 r = M.2.2.1.1 r) ∧ (∀ r, r ≠ s → M'.2.2.1.2 r = M.2.2.1.2 r) ∧ (∀ r, r ≠ s → M'.2.2.2.1 r = M.2.2.2.1 r) ∧ (∀ r, r ≠ s → M'.2.2.2.2 r = M.2.2.2.2 r)
theorem mS.K {M M' : vM} {s : Nat} (z_h : mS M M' s) : M'.1.1.2.1 = M.1.1.2.1 := z_h.1
theorem mS.J {M M' : vM} {s : Nat} (z_h : mS M M' s) : M'.1.1.2.2 = M.1.1.2.2 := z_h.2.1
theorem mS.R {M M' : vM} {s : Nat} (z_h : mS M M' s) : M'.2.1.2.2 = M.2.1.2.2 := z_h.2.2.1
theorem mS.n9 {M M' : vM} {s : Nat} (z_h : mS M M' s) : M'.2.1.2.1 9 = M.2.1.2.1 9 := z_h.2.2.2.1
theorem mS.z6 {M M' : vM} {s : Nat} (z_h : mS M M' s) : M'.1.2.1 6 = M.1.2.1 6 := z_h.2.2.2.2.1
theorem mS.z21 {M M' : vM} {s : Nat} (z_h : mS M M' s) : M'.1.2.1 21 = M.1.2.1 21 := z_h.2.2.2.2.2.1
theorem mS.z22 {M M' : vM} {s : Nat} (z_h : mS M M' s) : M'.1.2.1 22 = M.1.2.1 22 := z_h.2.2.2.2.2.2.1
theorem mS.i8 {M M' : vM} {s : Nat} (z_h : mS M M' s) : M'.1.2.2.1 8 = M.1.2.2.1 8 := z_h.2.2.2.2.2.2.2.1
theorem mS.c4 {M M' : vM} {s : Nat} (z_h : mS M M' s) : M'.1.2.2.2 4 = M.1.2.2.2 4 := z_h.2.2.2.2.2.2.2.2.1
theorem mS.nc {M M' : vM} {s : Nat} (z_h : mS M M' s) : ∀ r, r ≠ s → M'.2.1.2.1 12 r = M.2.1.2.1 12 r := z_h.2.2.2.2.2.2.2.2.2.1
theorem mS.fo {M M' : vM} {s : Nat} (z_h : mS M M' s) : ∀ r, r ≠ s → M'.1.2.1 7 r = M.1.2.1 7 r := z_h.2.2.2.2.2.2.2.2.2.2.1
theorem mS.st {M M' : vM} {s : Nat} (z_h : mS M M' s) : ∀ r, r ≠ s → M'.1.2.2.1 17 r = M.1.2.2.1 17 r := z_h.2.2.2.2.2.2.2.2.2.2.2.1
theorem mS.ca {M M' : vM} {s : Nat} (z_h : mS M M' s) : ∀ r, r ≠ s → M'.1.2.2.1 18 r = M.1.2.2.1 18 r := z_h.2.2.2.2.2.2.2.2.2.2.2.2.1
theorem mS.f {M M' : vM} {s : Nat} (z_h : mS M M' s) : ∀ r, r ≠ s → M'.2.2.1.1 r = M.2.2.1.1 r := z_h.2.2.2.2.2.2.2.2.2.2.2.2.2.1
theorem mS.y {M M' : vM} {s : Nat} (z_h : mS M M' s) : ∀ r, r ≠ s → M'.2.2.1.2 r = M.2.2.1.2 r := z_h.2.2.2.2.2.2.2.2.2.2.2.2.2.2.1
theorem mS.w {M M' : vM} {s : Nat} (z_h : mS M M' s) : ∀ r, r ≠ s → M'.2.2.2.1 r = M.2.2.2.1 r := z_h.2.2.2.2.2.2.2.2.2.2.2.2.2.2.2.1
theorem mS.h {M M' : vM} {s : Nat} (z_h : mS M M' s) : ∀ r, r ≠ s → M'.2.2.2.2 r = M.2.2.2.2 r := z_h.2.2.2.2.2.2.2.2.2.2.2.2.2.2.2.2
theorem mS.refl (M : vM) (s : Nat) : mS M M s := ⟨rfl, rfl, rfl, rfl, rfl, rfl, rfl, rfl, rfl, fun _ _ => rfl, fun _ _ => rfl, fun _ _ => rfl, fun _ _ => rfl, fun _ _ => rfl, fun _ _ => rfl, fun _ _ => rfl, fun _ _ => rfl⟩
theorem mS.trans {A B C : vM} {s : Nat} (h : mS A B s) (g : mS B C s) : mS A C s := ⟨g.K.trans h.K, g.J.trans h.J, g.R.trans h.R, g.n9.trans h.n9, g.z6.trans h.z6, g.z21.trans h.z21, g.z22.trans h.z22, g.i8.trans h.i8, g.c4.trans h.c4, fun r q => (g.nc r q).trans (h.nc r q), fun r q => (g.fo r q).trans (h.fo r q), fun r q => (g.st r q).trans (h.st r q), fun r q => (g.ca r q).trans (h.ca r q), fun r q => (g.f r q).trans (h.f r q), fun r q => (g.y r q).trans (h.y r q), fun r q => (g.w r q).trans (h.w r q), fun r q => (g.h r q).trans (h.h r q)⟩
theorem mS.mv (s p : Nat) (M : vM) : mS M (m_mv s p M) s := by
  obtain ⟨a1, a2, a3, a4, a5, a6, a7, a8, a9⟩ := m_mv_same s p M
  refine ⟨a9, a3, a2, by rw [a1], by rw [a4], by rw [a4], by rw [a4], by rw [a5], by rw [a6], fun r q => by rw [a1], fun r q => by rw [a4], fun r q => by rw [a5], fun r q => by rw [a5], ?_, ?_, ?_, ?_⟩
  · intro r q; funext k; rw [(m_mv_ent s p M r k).2.1, if_neg q]
  · intro r q; funext k; rw [(m_mv_ent s p M r k).1, if_neg q]
  · intro r q; funext k; rw [(m_mv_ent s p M r k).2.2.1, if_neg q]
  · intro r q; funext k; rw [(m_mv_ent s p M r k).2.2.2, if_neg q]
theorem mS.cp (s f t : Nat) (M : vM) : mS M (m_cp M s f t) s := ⟨rfl, rfl, rfl, rfl, rfl, rfl, rfl, rfl, rfl, fun _ _ => rfl, fun _ _ => rfl, fun _ _ => rfl, fun _ _ => rfl, fun r q => by funext k; simp [m_cp, up2, q], fun r q => by funext k; simp [m_cp, up2, q], fun r q => by funext k i; simp [m_cp, q], fun r q => by funext k i; simp [m_cp, q]⟩
theorem mS.br (s k : Nat) (M : vM) : mS M (m_br M s k) s := ((mS.cp s k 3 M).trans (mS.mv s k _)).trans (mS.cp s 3 0 _)
theorem mS.cm (M : vM) (s : Nat) (had : Bool) (f y : Int64) (dn : Bool) : mS M (m_cm M s had f y dn) s := by
  unfold m_cm
  split
  · exact ⟨rfl, rfl, rfl, rfl, rfl, rfl, rfl, rfl, by simp [up1], fun _ _ => rfl, fun _ _ => rfl, fun _ _ => rfl, fun _ _ => rfl, fun _ _ => rfl, fun _ _ => rfl, fun _ _ => rfl, fun _ _ => rfl⟩
  · exact mS.refl M s
theorem mS.bM (M : vM) (s k : Nat) : mS M (m_bM M s k) s := by
  have h := mS.br s k M
  have hI := (m_br_same M s k).2.2.2.2.1
  refine ⟨h.K, h.J, h.R, h.n9, rfl, rfl, rfl, ?_, ?_, h.nc, fun _ _ => rfl, ?_, ?_, h.f, h.y, h.w, h.h⟩
  · funext r; simp [m_bM, up2]
  · simp [m_bM, up1]
  · intro r q; simp [m_bM, up2, q]
  · intro r q; simp [m_bM, up2]
theorem mS.r1 (M : vM) (s : Nat) : mS M (m_r1 M s) s := ⟨rfl, rfl, rfl, rfl, by funext r; simp [m_r1, up2], by funext r; simp [m_r1, up2], by funext r; simp [m_r1, up2], by funext r; simp [m_r1, up2], rfl, fun _ _ => rfl, fun r q => by simp [m_r1, up2, q], fun r q => by simp [m_r1, up2], fun r q => by simp [m_r1, up2, q], fun _ _ => rfl, fun _ _ => rfl, fun _ _ => rfl, fun _ _ => rfl⟩
theorem mS.wm (M : vM) (s : Nat) : mS M (m_wm M s) s := by
  have h0 : mS M { M with snd.fst.snd.fst := up2 M.2.1.2.1 12 s (m_wc M s) } s := ⟨rfl, rfl, rfl, by funext r; simp [up2], rfl, rfl, rfl, rfl, rfl, fun r q => by simp [up2, q], fun _ _ => rfl, fun _ _ => rfl, fun _ _ => rfl, fun _ _ => rfl, fun _ _ => rfl, fun _ _ => rfl, fun _ _ => rfl⟩
  exact h0.trans (mS.mv s (m_wl M s) _)
theorem mS.wk (M : vM) (s : Nat) : mS M (m_wk M s) s := by
  have h := mS.wm M s
  refine ⟨h.K, h.J, h.R, h.n9, h.z6, h.z21, h.z22, h.i8, h.c4, h.nc, h.fo, h.st, h.ca, ?_, ?_, ?_, ?_⟩
  · intro r q; rw [← h.f r q]; funext k; simp [m_wk, up2, q]
  · intro r q; rw [← h.y r q]; funext k; simp [m_wk, up2, q]
  · intro r q; rw [← h.w r q]; funext k i; simp [m_wk, q]
  · intro r q; rw [← h.h r q]; funext k i; simp [m_wk, q]
theorem mS.rM (M : vM) (s : Nat) : mS M (m_rM M s) s := by
  have h := (mS.r1 M s).trans (mS.wk (m_r1 M s) s)
  refine ⟨h.K, h.J, h.R, h.n9, h.z6, h.z21, h.z22, ?_, h.c4, h.nc, h.fo, ?_, ?_, h.f, h.y, h.w, h.h⟩
  · funext r; simp [m_rM, m_r1, up2]
  · intro r q; simp [m_rM, m_r1, up2, q]
  · intro r q; simp [m_rM, m_r1, up2, q]
theorem mS.go (M : vM) (s : Nat) : mS M (m_go M s).2 s := by
  unfold m_go
  split
  · exact ⟨rfl, rfl, rfl, rfl, rfl, rfl, rfl, by funext r; simp [up2], by simp [up1], fun _ _ => rfl, fun _ _ => rfl, fun r q => by simp [up2, q], fun r q => by simp [up2], fun _ _ => rfl, fun _ _ => rfl, fun _ _ => rfl, fun _ _ => rfl⟩
  · cases m_sl M s with
    | some k =>
      simp only [m_gr]
      split
      · exact mS.bM M s k
      · exact (mS.bM M s k).trans (mS.cm _ s _ _ _ _)
    | none => exact (mS.rM M s).trans (mS.cm _ s _ _ _ _)
theorem Cs.keep {A A' : vA} {M M' : vM} {s r : Nat} (h : Cs A M r) (hA : aS A A' s) (hM : mS M M' s) (hr : r ≠ s) : Cs A' M' r := by
  refine ⟨?_, ?_, ?_, ?_, ?_, ?_, ?_, ?_, ?_, ?_, ?_⟩
  · rw [hM.J, hA.SJ]; exact h.j4
  · rw [hM.J, hA.SJ]; exact h.j5
  · rw [hM.n9, hA.nr]; exact h.nr
  · rw [hM.nc r hr, hA.nc r hr]; exact h.nc
  · rw [hM.fo r hr, hA.fo r hr]; exact h.fo
  · rw [hM.st r hr, hA.si r 9 hr]; exact h.st
  · rw [hA.si r 9 hr, hA.si r 10 hr, hM.ca r hr]; exact h.ca
  · rw [hA.nr, hM.R, hA.rd]; exact h.rd
  · rw [hA.nr, hM.R, hA.nf]; exact h.ok
  · intro k hk
    rw [hA.nc r hr] at hk
    have e := h.en k hk
    refine ⟨?_, ?_, ?_, ?_, ?_⟩
    · rw [hA.ei r hr, hA.pm r hr, hM.f r hr]; exact e.f
    · rw [hA.ej 4 r hr, hA.pm r hr, hM.y r hr]; exact e.y
    · rw [hA.ej 3 r hr, hA.pm r hr, hM.y r hr, hA.SJ]; exact e.c
    · rw [hA.ew r hr, hA.pm r hr, hM.w r hr, hA.nr]; exact e.w
    · rw [hA.eh r hr, hA.pm r hr, hM.h r hr, hA.nr]; exact e.h
  · rw [hA.pm r hr]; exact h.inj
theorem Cf.keep {A A' : vA} {M M' : vM} {s : Nat} (h : Cf A M) (hA : aS A A' s) (hM : mS M M' s) (hs : s < A.1.1.1.2) : Cf A' M' := by
  refine ⟨?_, ?_, ?_, ?_, ?_, ?_, ?_, ?_⟩
  · rw [hM.K, hA.nf]; exact h.k1
  · rw [hM.K, hA.ns]; exact h.k2
  · rw [hM.z6, hA.nf, hA.FZ]; exact h.fz
  · rw [hM.J, hA.nf, hA.FJ]; exact h.fj
  · rw [hM.i8, hA.nf, hA.FI]; exact h.fi
  · rw [hA.nf, hA.FJ, hA.FZ]; exact h.fc
  · rw [hM.i8, hA.nf]; exact h.f0
  · rw [hA.ns]
    intro r h1 h2
    have hr : r ≠ s := by omega
    rw [hM.n9, hM.nc r hr, hM.fo r hr, hM.st r hr]
    exact h.hi r h1 h2
theorem z_any_fst {p : Nat → Bool} : ∀ (d k : Nat), z_any p k d = (z_fst p k d).isSome
  | 0, _ => rfl
  | d + 1, k => by
    simp only [z_any, z_fst, z_any_fst d (k + 1)]
    by_cases h : p k = true <;> simp [h]
theorem z_fst_congr {p q : Nat → Bool} : ∀ (d k : Nat), (∀ i, k ≤ i → i < k + d → p i = q i) → z_fst p k d = z_fst q k d
  | 0, _, _ => rfl
  | d + 1, k, h => by
    simp only [z_fst]
    rw [h k (by omega) (by omega), z_fst_congr d (k + 1) (fun i h1 h2 => h i (by omega) (by omega))]
theorem z_all_congr {p q : Nat → Bool} : ∀ (d k : Nat), (∀ i, k ≤ i → i < k + d → p i = q i) → z_all p k d = z_all q k d
  | 0, _, _ => rfl
  | d + 1, k, h => by
    simp only [z_all]
    rw [h k (by omega) (by omega), z_all_congr d (k + 1) (fun i h1 h2 => h i (by omega) (by omega))]
theorem z_sum_congr {p q : Nat → Int64} : ∀ (d k : Nat) (a : Int64), (∀ i, k ≤ i → i < k + d → p i = q i) → z_sum p k d a = z_sum q k d a
  | 0, _, _, _ => rfl
  | d + 1, k, a, h => by
    simp only [z_sum]
    rw [h k (by omega) (by omega), z_sum_congr d (k + 1) _ (fun i h1 h2 => h i (by omega) (by omega))]
theorem m_fl_congr {p q : Nat → Bool} {n : Nat} {m y : Int64} (h : ∀ i, i < n → p i = q i) : m_fl p n m y = m_fl q n m y := by
  have e : z_fst (fun i => !(p i)) 0 n = z_fst (fun i => !(q i)) 0 n := z_fst_congr n 0 fun i _ hi => by rw [h i (by omega)]
  simp only [m_fl, e]
theorem Cs.code {A : vA} {M : vM} {s i : Nat} (h : Cs A M s) (hn : A.1.1.1.1 ≤ 16) (hi : i < A.2.1.1.2 3 s) : (M.2.1.2.2 11 s i = 2 ∧ M.2.1.2.2 10 s i < A.1.1.1.1 ∧ A.2.1.2.2.2 s i = M.2.1.2.2 10 s i ∧ A.2.1.2.2.2 s i < 16) ∨ (M.2.1.2.2 11 s i < 2 ∧ M.2.1.2.2 10 s i < s ∧ ¬ A.2.1.2.2.2 s i < 16 ∧ a_st A s i = M.2.1.2.2 10 s i ∧ a_pt A s i = M.2.1.2.2 11 s i) := by
  have h1 := h.rd i hi
  rcases h.ok i hi with ⟨h2, h3⟩ | ⟨h2, h3⟩
  · left
    rw [h1, h2]
    simp only [z_cd, if_true]
    exact ⟨trivial, h3, trivial, by omega⟩
  · right
    have h4 : ¬ M.2.1.2.2 11 s i = 2 := by omega
    simp only [a_st, a_pt, h1, z_cd, if_neg h4]
    refine ⟨h2, h3, by omega, by omega, by omega⟩
