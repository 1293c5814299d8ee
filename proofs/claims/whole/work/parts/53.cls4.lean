def a_rp (A : vA) (s : Nat) : Option Nat → vA
  | none => { a_bf A s 3 (A.2.2.1.1 s 3) with snd.fst.fst.snd := up2 A.2.1.1.2 5 s (if 3 < A.2.1.1.2 5 s + 1 then 3 else A.2.1.1.2 5 s + 1) }
  | some k => a_bf { A with snd.snd.fst.fst := up2 (up2 A.2.2.1.1 s 3 (A.2.2.1.1 s k)) s k (A.2.2.1.1 s 3) } s k (A.2.2.1.1 s 3)
def a_rdo (A : vA) (s : Nat) (m : Option Nat) : vA := { a_rp (a_fo A s (A.2.2.1.1 s 3)) s m with snd.fst.snd.fst := up2 A.2.1.2.1 6 s false, snd.fst.snd.snd.fst := up2 A.2.1.2.2.1 9 s (if (a_fo A s (A.2.2.1.1 s 3)).2.2.1.2 s (A.2.2.1.1 s 3) = -1 then 2 else 3) }
def a_ca (A : vA) (s : Nat) : Nat := if A.2.1.1.2 5 s = 0 then 0 else if A.2.1.2.1 6 s = true then 1 else match z_fst (a_df A s (A.2.2.1.1 s 0) (A.2.2.1.1 s 3)) 0 (A.2.1.1.2 3 s) with
  | none => 1
  | some i => if A.2.1.2.2.2 s i < 16 then 2 else 3
theorem a_ca_lt (A : vA) (s : Nat) : a_ca A s < 4 := by
  unfold a_ca
  split
  · omega
  · split
    · omega
    · split
      · omega
      · split <;> omega
def a_cm (A : vA) (s : Nat) : Option Nat → vA
  | none => A
  | some j => if (A.2.1.2.2.1 9 s = 2 ∨ A.2.1.2.2.1 9 s = 6) ∧ A.2.2.1.2 s j = -1 ∧ A.2.1.1.2 5 s ≠ 0 then
      (if A.2.2.2.1 4 s (A.2.2.1.1 s 0) = A.2.2.2.1 4 s j then { A with fst.snd.snd.fst := up1 A.1.2.2.1 1 (A.1.2.2.1 1 + 1), fst.snd.snd.snd.snd := if A.2.1.2.2.1 9 s = 2 then A.1.2.2.2.2 + 1 else A.1.2.2.2.2 }
       else if A.2.2.2.1 3 s (A.2.2.1.1 s 0) = A.2.2.2.1 3 s j then { A with fst.snd.snd.fst := up1 A.1.2.2.1 2 (A.1.2.2.1 2 + 1) } else A) else A
def a_bo (A : vA) (s : Nat) : Option Nat := if A.2.1.1.2 5 s = 0 then none else some (A.2.2.1.1 s 0)
def a_u3 (A : vA) (s : Nat) (m : Option Nat) : vA := { a_rdo A s m with snd.fst.snd.snd.fst := up2 (a_rdo A s m).2.1.2.2.1 10 s (nI (a_ca A s)), fst.snd.snd.snd.fst := up1 A.1.2.2.2.1 (a_ca A s) (A.1.2.2.2.1 (a_ca A s) + 1) }
def a_ur (A : vA) (s : Nat) : Option Nat → vA
  | some k => if A.2.1.2.1 6 s = true then a_u3 A s (some k) else a_ru A s k
  | none => a_u3 A s none
def a_up (A : vA) (s : Nat) : vA := a_cm (a_ur (a_rn A s) s (a_ps (a_rn A s) s (A.2.2.1.1 s 3))) s (a_bo A s)
def a_b0 (A : vA) (s : Nat) : vA := { A with snd.fst.snd.fst := up2 A.2.1.2.1 8 s (a_mk A s), fst.snd.snd.fst := up1 A.1.2.2.1 4 (A.1.2.2.1 4 + bI (a_mk A s)) }
def a_bw (A : vA) (s : Nat) : vA := if a_bl A s = true then { A with snd.fst.snd.snd.fst := up2 A.2.1.2.2.1 9 s 5, fst.snd.snd.fst := up1 A.1.2.2.1 3 (A.1.2.2.1 3 + 1) } else { a_up A s with fst.snd.snd.fst := up1 (a_up A s).1.2.2.1 0 ((a_up A s).1.2.2.1 0 + bI (A.2.1.2.1 8 s && decide ((a_up A s).2.1.2.2.1 10 s = -1))) }
def a_b1 (A : vA) (s : Nat) : vA := a_bw (a_b0 A s) s
def a_bd : Nat → Nat → Int32 → vA → Int32 × vA
  | _, 0, a, A => (a, A)
  | s, d + 1, a, A => if A.2.1.2.1 7 s = true then a_bd (s + 1) d (a + bI (decide ((a_b1 A s).2.1.2.2.1 10 s ≠ -1))) (a_b1 A s) else a_bd (s + 1) d a A
def aS (A A' : vA) (s : Nat) : Prop := (A'.1.1.1.1 = A.1.1.1.1) ∧ (A'.1.1.1.2 = A.1.1.1.2) ∧ (A'.1.1.2.1 = A.1.1.2.1) ∧ (A'.1.1.2.2.1 = A.1.1.2.2.1) ∧ (A'.1.1.2.2.2 = A.1.1.2.2.2) ∧ (A'.1.2.1.1 = A.1.2.1.1) ∧ (A'.1.2.1.2 = A.1.2.1.2) ∧ (A'.2.1.1.1 = A.2.1.1.1) ∧ (A'.2.1.2.2.2 = A.2.1.2.2.2) ∧ (A'.2.1.1.2 3 = A.2.1.1.2 3) ∧ (∀ r, r ≠ s → A'.2.1.1.2 5 r = A.2.1.1.2 5 r) ∧ (A'.2.1.2.1 7 = A.2.1.2.1 7) ∧ (A'.2.1.2.1 8 = A.2.1.2.1 8) ∧ (∀ r, r ≠ s → A'.2.1.2.1 6 r = A.2.1.2.1 6 r) ∧ (∀ r j, r ≠ s → A'.2.1.2.2.1 j r = A.2.1.2.2.1 j r) ∧ (∀ r, r ≠ s → A'.2.2.1.1 r = A.2.2.1.1 r) ∧ (∀ r, r ≠ s → A'.2.2.1.2 r = A.2.2.1.2 r) ∧ (∀ x r, r ≠ s → A'.2.2.2.1 x r = A.2.2.2.1 x r) ∧ (∀ r, r ≠ s → A'.2.2.2.2.1 r = A.2.2.2.2.1 r) ∧ (∀ r, r ≠ s → A'.2.2.2.2.2 r = A.2.2.2.2.2 r)
theorem aS.nf {A A' : vA} {s : Nat} (z_h : aS A A' s) : A'.1.1.1.1 = A.1.1.1.1 := z_h.1
theorem aS.ns {A A' : vA} {s : Nat} (z_h : aS A A' s) : A'.1.1.1.2 = A.1.1.1.2 := z_h.2.1
theorem aS.src {A A' : vA} {s : Nat} (z_h : aS A A' s) : A'.1.1.2.1 = A.1.1.2.1 := z_h.2.2.1
theorem aS.stp {A A' : vA} {s : Nat} (z_h : aS A A' s) : A'.1.1.2.2.1 = A.1.1.2.2.1 := z_h.2.2.2.1
theorem aS.FZ {A A' : vA} {s : Nat} (z_h : aS A A' s) : A'.1.1.2.2.2 = A.1.1.2.2.2 := z_h.2.2.2.2.1
theorem aS.FJ {A A' : vA} {s : Nat} (z_h : aS A A' s) : A'.1.2.1.1 = A.1.2.1.1 := z_h.2.2.2.2.2.1
theorem aS.FI {A A' : vA} {s : Nat} (z_h : aS A A' s) : A'.1.2.1.2 = A.1.2.1.2 := z_h.2.2.2.2.2.2.1
theorem aS.SJ {A A' : vA} {s : Nat} (z_h : aS A A' s) : A'.2.1.1.1 = A.2.1.1.1 := z_h.2.2.2.2.2.2.2.1
theorem aS.rd {A A' : vA} {s : Nat} (z_h : aS A A' s) : A'.2.1.2.2.2 = A.2.1.2.2.2 := z_h.2.2.2.2.2.2.2.2.1
theorem aS.nr {A A' : vA} {s : Nat} (z_h : aS A A' s) : A'.2.1.1.2 3 = A.2.1.1.2 3 := z_h.2.2.2.2.2.2.2.2.2.1
theorem aS.nc {A A' : vA} {s : Nat} (z_h : aS A A' s) : ∀ r, r ≠ s → A'.2.1.1.2 5 r = A.2.1.1.2 5 r := z_h.2.2.2.2.2.2.2.2.2.2.1
theorem aS.tk {A A' : vA} {s : Nat} (z_h : aS A A' s) : A'.2.1.2.1 7 = A.2.1.2.1 7 := z_h.2.2.2.2.2.2.2.2.2.2.2.1
theorem aS.mq {A A' : vA} {s : Nat} (z_h : aS A A' s) : A'.2.1.2.1 8 = A.2.1.2.1 8 := z_h.2.2.2.2.2.2.2.2.2.2.2.2.1
theorem aS.fo {A A' : vA} {s : Nat} (z_h : aS A A' s) : ∀ r, r ≠ s → A'.2.1.2.1 6 r = A.2.1.2.1 6 r := z_h.2.2.2.2.2.2.2.2.2.2.2.2.2.1
theorem aS.si {A A' : vA} {s : Nat} (z_h : aS A A' s) : ∀ r j, r ≠ s → A'.2.1.2.2.1 j r = A.2.1.2.2.1 j r := z_h.2.2.2.2.2.2.2.2.2.2.2.2.2.2.1
theorem aS.pm {A A' : vA} {s : Nat} (z_h : aS A A' s) : ∀ r, r ≠ s → A'.2.2.1.1 r = A.2.2.1.1 r := z_h.2.2.2.2.2.2.2.2.2.2.2.2.2.2.2.1
theorem aS.ei {A A' : vA} {s : Nat} (z_h : aS A A' s) : ∀ r, r ≠ s → A'.2.2.1.2 r = A.2.2.1.2 r := z_h.2.2.2.2.2.2.2.2.2.2.2.2.2.2.2.2.1
theorem aS.ej {A A' : vA} {s : Nat} (z_h : aS A A' s) : ∀ x r, r ≠ s → A'.2.2.2.1 x r = A.2.2.2.1 x r := z_h.2.2.2.2.2.2.2.2.2.2.2.2.2.2.2.2.2.1
theorem aS.eh {A A' : vA} {s : Nat} (z_h : aS A A' s) : ∀ r, r ≠ s → A'.2.2.2.2.1 r = A.2.2.2.2.1 r := z_h.2.2.2.2.2.2.2.2.2.2.2.2.2.2.2.2.2.2.1
theorem aS.ew {A A' : vA} {s : Nat} (z_h : aS A A' s) : ∀ r, r ≠ s → A'.2.2.2.2.2 r = A.2.2.2.2.2 r := z_h.2.2.2.2.2.2.2.2.2.2.2.2.2.2.2.2.2.2.2
theorem aS.refl (A : vA) (s : Nat) : aS A A s := ⟨rfl, rfl, rfl, rfl, rfl, rfl, rfl, rfl, rfl, rfl, fun _ _ => rfl, rfl, rfl, fun _ _ => rfl, fun _ _ _ => rfl, fun _ _ => rfl, fun _ _ => rfl, fun _ _ _ => rfl, fun _ _ => rfl, fun _ _ => rfl⟩
theorem aS.trans {A B C : vA} {s : Nat} (h : aS A B s) (g : aS B C s) : aS A C s := ⟨g.nf.trans h.nf, g.ns.trans h.ns, g.src.trans h.src, g.stp.trans h.stp, g.FZ.trans h.FZ, g.FJ.trans h.FJ, g.FI.trans h.FI, g.SJ.trans h.SJ, g.rd.trans h.rd, g.nr.trans h.nr, fun r q => (g.nc r q).trans (h.nc r q), g.tk.trans h.tk, g.mq.trans h.mq, fun r q => (g.fo r q).trans (h.fo r q), fun r j q => (g.si r j q).trans (h.si r j q), fun r q => (g.pm r q).trans (h.pm r q), fun r q => (g.ei r q).trans (h.ei r q), fun x r q => (g.ej x r q).trans (h.ej x r q), fun r q => (g.eh r q).trans (h.eh r q), fun r q => (g.ew r q).trans (h.ew r q)⟩
theorem aS.rn (A : vA) (s : Nat) : aS A (a_rn A s) s := ⟨rfl, rfl, rfl, rfl, rfl, rfl, rfl, rfl, rfl, rfl, fun _ _ => rfl, rfl, rfl, fun _ _ => rfl, fun _ _ _ => rfl, fun _ _ => rfl, fun _ _ => rfl, fun _ _ _ => rfl, fun r q => by funext j i; simp [a_rn, q], fun r q => by funext j i; simp [a_rn, q]⟩
theorem aS.fo' (A : vA) (s j : Nat) : aS A (a_fo A s j) s := ⟨rfl, rfl, rfl, rfl, rfl, rfl, rfl, rfl, rfl, rfl, fun _ _ => rfl, rfl, rfl, fun _ _ => rfl, fun _ _ _ => rfl, fun _ _ => rfl, fun r q => by funext i; simp [a_fo, up2, q], fun x r q => by funext i; simp [a_fo, up3, q], fun _ _ => rfl, fun _ _ => rfl⟩
theorem aS.bf (A : vA) (s p x : Nat) : aS A (a_bf A s p x) s := ⟨rfl, rfl, rfl, rfl, rfl, rfl, rfl, rfl, rfl, rfl, fun _ _ => rfl, rfl, rfl, fun _ _ => rfl, fun _ _ _ => rfl, fun r q => by simp [a_bf, q], fun _ _ => rfl, fun _ _ _ => rfl, fun _ _ => rfl, fun _ _ => rfl⟩
theorem aS.rp (A : vA) (s : Nat) (m : Option Nat) : aS A (a_rp A s m) s := by
  cases m with
  | none => exact ⟨rfl, rfl, rfl, rfl, rfl, rfl, rfl, rfl, rfl, by funext r; simp [a_rp, up2], fun r q => by simp [a_rp, up2, q], rfl, rfl, fun _ _ => rfl, fun _ _ _ => rfl, fun r q => by simp [a_rp, a_bf, q], fun _ _ => rfl, fun _ _ _ => rfl, fun _ _ => rfl, fun _ _ => rfl⟩
  | some k => exact ⟨rfl, rfl, rfl, rfl, rfl, rfl, rfl, rfl, rfl, rfl, fun _ _ => rfl, rfl, rfl, fun _ _ => rfl, fun _ _ _ => rfl, fun r q => by funext i; simp [a_rp, a_bf, q, up2], fun _ _ => rfl, fun _ _ _ => rfl, fun _ _ => rfl, fun _ _ => rfl⟩
theorem aS.st (A : vA) (s : Nat) (f : Bool) (x y : Int32) (T C : Nat → Int32) (c : Int32) : aS A { A with snd.fst.snd.fst := up2 A.2.1.2.1 6 s f, snd.fst.snd.snd.fst := up2 (up2 A.2.1.2.2.1 9 s x) 10 s y, fst.snd.snd.snd.fst := T, fst.snd.snd.fst := C, fst.snd.snd.snd.snd := c } s := ⟨rfl, rfl, rfl, rfl, rfl, rfl, rfl, rfl, rfl, rfl, fun _ _ => rfl, by funext r; simp [up2], by funext r; simp [up2], fun r q => by simp [up2, q], fun r j q => by simp [up2, q], fun _ _ => rfl, fun _ _ => rfl, fun _ _ _ => rfl, fun _ _ => rfl, fun _ _ => rfl⟩
theorem aS.u3 (A : vA) (s : Nat) (m : Option Nat) : aS A (a_u3 A s m) s := by
  have h := ((aS.fo' A s (A.2.2.1.1 s 3)).trans (aS.rp (a_fo A s (A.2.2.1.1 s 3)) s m))
  refine ⟨h.nf, h.ns, h.src, h.stp, h.FZ, h.FJ, h.FI, h.SJ, h.rd, h.nr, h.nc, ?_, ?_, ?_, ?_, h.pm, h.ei, h.ej, h.eh, h.ew⟩
  · funext r; simp [a_u3, a_rdo, up2]
  · funext r; simp [a_u3, a_rdo, up2]
  · intro r q; simp [a_u3, a_rdo, up2, q]
  · intro r j q; simp [a_u3, a_rdo, up2, q]
theorem aS.ru (A : vA) (s k : Nat) : aS A (a_ru A s k) s := by
  have h := aS.bf A s k (A.2.2.1.1 s k)
  refine ⟨h.nf, h.ns, h.src, h.stp, h.FZ, h.FJ, h.FI, h.SJ, h.rd, h.nr, h.nc, rfl, rfl, fun _ _ => rfl, ?_, h.pm, h.ei, h.ej, h.eh, h.ew⟩
  intro r j q; simp [a_ru, up2, q]
theorem aS.cm (A : vA) (s : Nat) (m : Option Nat) : aS A (a_cm A s m) s := by
  have key : ∀ C c, aS A { A with fst.snd.snd.fst := C, fst.snd.snd.snd.snd := c } s := fun C c => ⟨rfl, rfl, rfl, rfl, rfl, rfl, rfl, rfl, rfl, rfl, fun _ _ => rfl, rfl, rfl, fun _ _ => rfl, fun _ _ _ => rfl, fun _ _ => rfl, fun _ _ => rfl, fun _ _ _ => rfl, fun _ _ => rfl, fun _ _ => rfl⟩
  cases m with
  | none => exact key A.1.2.2.1 A.1.2.2.2.2
  | some j =>
    unfold a_cm
    simp only
    split
    · split
      · exact key _ _
      · split
        · exact key _ _
        · exact key A.1.2.2.1 A.1.2.2.2.2
    · exact key A.1.2.2.1 A.1.2.2.2.2
theorem aS.ur (A : vA) (s : Nat) (m : Option Nat) : aS A (a_ur A s m) s := by
  cases m with
  | none => exact aS.u3 A s none
  | some k =>
    unfold a_ur
    simp only
    split
    · exact aS.u3 A s (some k)
    · exact aS.ru A s k
theorem aS.up (A : vA) (s : Nat) : aS A (a_up A s) s := ((aS.rn A s).trans (aS.ur _ s _)).trans (aS.cm _ s _)
theorem aS.bw (A : vA) (s : Nat) : aS A (a_bw A s) s := by
  unfold a_bw
  split
  · refine ⟨rfl, rfl, rfl, rfl, rfl, rfl, rfl, rfl, rfl, rfl, fun _ _ => rfl, rfl, rfl, fun _ _ => rfl, ?_, fun _ _ => rfl, fun _ _ => rfl, fun _ _ _ => rfl, fun _ _ => rfl, fun _ _ => rfl⟩
    intro r j q; simp [up2, q]
  · have h := aS.up A s
    exact ⟨h.nf, h.ns, h.src, h.stp, h.FZ, h.FJ, h.FI, h.SJ, h.rd, h.nr, h.nc, h.tk, h.mq, h.fo, h.si, h.pm, h.ei, h.ej, h.eh, h.ew⟩
theorem WA.ofS {A A' : vA} {s : Nat} (W : WA A) (h : aS A A' s) (hn : A'.2.1.1.2 5 s ≤ 3) (hp : ∀ k, k < 4 → A'.2.2.1.1 s k < 4) : WA A' := by
  refine ⟨by rw [h.nf]; exact W.nf, by rw [h.ns]; exact W.ns, fun r hr => ?_, fun r hr => ?_, fun r i hr hi => ?_, fun r k hr hk => ?_⟩
  · rw [h.nr]; exact W.nr r (by rw [← h.ns]; exact hr)
  · by_cases e : r = s
    · subst e; exact hn
    · rw [h.nc r e]; exact W.nc r (by rw [← h.ns]; exact hr)
  · rw [h.rd]; rw [h.nr] at hi; exact W.rd r i (by rw [← h.ns]; exact hr) hi
  · by_cases e : r = s
    · subst e; exact hp k hk
    · rw [h.pm r e]; exact W.pm r k (by rw [← h.ns]; exact hr) hk
theorem a_rp_pm {A : vA} {s : Nat} {m : Option Nat} (W : WA A) (hs : s < A.1.1.1.2) (hm : ∀ k, m = some k → k < 3) : (∀ k, k < 4 → (a_rp A s m).2.2.1.1 s k < 4) ∧ (a_rp A s m).2.1.1.2 5 s ≤ 3 := by
  have h3 := W.nc s hs
  have hp : ∀ k, k < 4 → A.2.2.1.1 s k < 4 := fun k hk => W.pm s k hs hk
  cases m with
  | none =>
    refine ⟨fun k hk => ?_, ?_⟩
    · simp only [a_rp, a_bf, if_true, z_pf]
      split
      · exact hp 3 (by omega)
      · split
        · exact hp _ (by omega)
        · exact hp _ hk
    · simp only [a_rp, up2, and_self, if_true]
      split <;> omega
  | some k0 =>
    have hk0 := hm k0 rfl
    refine ⟨fun k hk => ?_, h3⟩
    simp only [a_rp, a_bf, if_true, z_pf, up2, true_and]
    split
    · exact hp 3 (by omega)
    · split
      · split
        · exact hp 3 (by omega)
        · split
          · exact hp _ (by omega)
          · exact hp _ (by omega)
      · split
        · exact hp 3 (by omega)
        · split
          · exact hp _ (by omega)
          · exact hp _ hk
theorem WA.u3 {A : vA} (W : WA A) {s : Nat} (hs : s < A.1.1.1.2) {m : Option Nat} (hm : ∀ k, m = some k → k < 3) : WA (a_u3 A s m) := by
  have W1 : WA (a_fo A s (A.2.2.1.1 s 3)) := W.of rfl rfl rfl rfl rfl
  obtain ⟨h1, h2⟩ := a_rp_pm (A := a_fo A s (A.2.2.1.1 s 3)) (s := s) (m := m) W1 hs hm
  exact W.ofS (aS.u3 A s m) h2 h1
theorem WA.ru {A : vA} (W : WA A) {s k : Nat} (hs : s < A.1.1.1.2) (hk : k < 3) : WA (a_ru A s k) :=
  (W.bf (s := s) (p := k) (x := A.2.2.1.1 s k) (W.pm s k hs (by omega)) (by omega)).of rfl rfl rfl rfl rfl
theorem WA.ur {A : vA} (W : WA A) {s : Nat} (hs : s < A.1.1.1.2) {m : Option Nat} (hm : ∀ k, m = some k → k < 3) : WA (a_ur A s m) := by
  cases m with
  | none => exact W.u3 hs hm
  | some k =>
    unfold a_ur
    simp only
    split
    · exact W.u3 hs hm
    · exact W.ru hs (hm k rfl)
theorem a_cm_pm (A : vA) (s : Nat) (m : Option Nat) : (a_cm A s m).2.2.1.1 = A.2.2.1.1 ∧ (a_cm A s m).2.1.1.2 = A.2.1.1.2 := by
  cases m with
  | none => exact ⟨rfl, rfl⟩
  | some j =>
    unfold a_cm
    simp only
    split
    · split
      · exact ⟨rfl, rfl⟩
      · split <;> exact ⟨rfl, rfl⟩
    · exact ⟨rfl, rfl⟩
theorem WA.cm {A : vA} (W : WA A) (s : Nat) (m : Option Nat) : WA (a_cm A s m) :=
  W.of (aS.cm A s m).nf (aS.cm A s m).ns (a_cm_pm A s m).2 (aS.cm A s m).rd (a_cm_pm A s m).1
theorem a_ps_lt {A : vA} {s c k : Nat} (h : a_ps A s c = some k) : k < A.2.1.1.2 5 s := by
  have := (z_fst_lt _ _ _ _ h).2.1
  omega
theorem WA.up {A : vA} (W : WA A) {s : Nat} (hs : s < A.1.1.1.2) : WA (a_up A s) := by
  have h3 := W.nc s hs
  have W1 : WA (a_rn A s) := W.of rfl rfl rfl rfl rfl
  refine (W1.ur hs fun k hk => ?_).cm s _
  have := a_ps_lt hk
  have e : (a_rn A s).2.1.1.2 5 s = A.2.1.1.2 5 s := rfl
  omega
theorem WA.bw {A : vA} (W : WA A) {s : Nat} (hs : s < A.1.1.1.2) : WA (a_bw A s) := by
  unfold a_bw
  split
  · exact W.of rfl rfl rfl rfl rfl
  · exact (W.up hs).of rfl rfl rfl rfl rfl
theorem WA.b1 {A : vA} (W : WA A) {s : Nat} (hs : s < A.1.1.1.2) : WA (a_b1 A s) := (W.of (A' := a_b0 A s) rfl rfl rfl rfl rfl).bw hs
theorem a_b1_ns (A : vA) (s : Nat) : (a_b1 A s).1.1.1.2 = A.1.1.1.2 ∧ (a_b1 A s).1.1.2.2.1 = A.1.1.2.2.1 := ⟨(aS.bw (a_b0 A s) s).ns, (aS.bw (a_b0 A s) s).stp⟩
